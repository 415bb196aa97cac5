theorem dX12_isNowDrunk_0 : decode cX12_isNowDrunk 0 = .ok (.aload_n 0, 1) := by decide +kernel
theorem dX12_isNowDrunk_1 : decode cX12_isNowDrunk 1 = .ok (.getfield 7, 3) := by decide +kernel
theorem dX12_isNowDrunk_4 : decode cX12_isNowDrunk 4 = .ok (.bipush 8, 2) := by decide +kernel
theorem dX12_isNowDrunk_6 : decode cX12_isNowDrunk 6 = .ok (.iaload, 1) := by decide +kernel
theorem dX12_isNowDrunk_7 : decode cX12_isNowDrunk 7 = .ok (.iload_n 1, 1) := by decide +kernel
theorem dX12_isNowDrunk_8 : decode cX12_isNowDrunk 8 = .ok (.if_icmp .eq 7, 3) := by decide +kernel
theorem dX12_isNowDrunk_11 : decode cX12_isNowDrunk 11 = .ok (.iconst 1, 1) := by decide +kernel
theorem dX12_isNowDrunk_12 : decode cX12_isNowDrunk 12 = .ok (.goto 4, 3) := by decide +kernel
theorem dX12_isNowDrunk_15 : decode cX12_isNowDrunk 15 = .ok (.iconst 0, 1) := by decide +kernel
theorem dX12_isNowDrunk_16 : decode cX12_isNowDrunk 16 = .ok (.istore_n 2, 1) := by decide +kernel
theorem dX12_isNowDrunk_17 : decode cX12_isNowDrunk 17 = .ok (.aload_n 0, 1) := by decide +kernel
theorem dX12_isNowDrunk_18 : decode cX12_isNowDrunk 18 = .ok (.getfield 7, 3) := by decide +kernel
theorem dX12_isNowDrunk_21 : decode cX12_isNowDrunk 21 = .ok (.bipush 8, 2) := by decide +kernel
theorem dX12_isNowDrunk_23 : decode cX12_isNowDrunk 23 = .ok (.iload_n 1, 1) := by decide +kernel
theorem dX12_isNowDrunk_24 : decode cX12_isNowDrunk 24 = .ok (.iastore, 1) := by decide +kernel
theorem dX12_isNowDrunk_25 : decode cX12_isNowDrunk 25 = .ok (.iload_n 2, 1) := by decide +kernel
theorem dX12_isNowDrunk_26 : decode cX12_isNowDrunk 26 = .ok (.ireturn, 1) := by decide +kernel
noncomputable def fX12_isNowDrunk_j16 (rf : Nat → Nat → Nat) (a0 : Nat) (x1 : Int32) (y0 : Int32) (μ0 : o_Mem) : Option (Int32 × o_Mem) :=
  o_seq (o_wI μ0 (rf a0 0) 8 x1) fun μ1 =>
  o_ck (y0 = 0 ∨ y0 = 1) <|
  some (y0, μ1)
noncomputable def fX12_isNowDrunk (rf : Nat → Nat → Nat) (a0 : Nat) (x1 : Int32) (μ0 : o_Mem) : Option (Int32 × o_Mem) :=
  if (μ0.1 (rf a0 0) 8) = x1 then (
    fX12_isNowDrunk_j16 rf a0 x1 0 μ0)
  else (
    fX12_isNowDrunk_j16 rf a0 x1 1 μ0)
set_option maxRecDepth 20000 in
theorem dnX12_isNowDrunk_j16 {X : o_Cx} (hX : o_ok X) {d : Nat} {a0 : Nat} {x1 : Int32} {y0 : Int32} {μ0 : o_Mem} {q : Int32 → o_Mem → Prop} (h0 : o_is X a0 (.inl 12)) (h : o_Post (fX12_isNowDrunk_j16 (o_rf X) a0 x1 y0 μ0) q) : o_Ev X (d + 0) mX12_isNowDrunk 16 [some (.ref (o_ad X a0)), some (.int x1), none] [.int y0] μ0 (o_QZ q) := by
  unfold fX12_isNowDrunk_j16 at h
  refine s_istore_n (i := 2) dX12_isNowDrunk_16 rfl (Nat.le_of_ble_eq_true rfl) rfl ?_
  refine s_aload_n (i := 0) dX12_isNowDrunk_17 rfl rfl ?_
  refine s_getR hX h0 flX12_7 rfl dX12_isNowDrunk_18 (fun (g1 : o_is X (o_rf X a0 0) (.inr (0, 3756))) => ?_)
  refine s_bipush dX12_isNowDrunk_21 kB_8 ?_
  refine s_iload_n (i := 1) dX12_isNowDrunk_23 rfl rfl ?_
  refine s_iastK hX g1 ⟨by decide, by decide⟩ kN_8 dX12_isNowDrunk_24 (o_gen h (fun μ1 h => ?_))
  refine s_iload_n (i := 2) dX12_isNowDrunk_25 rfl rfl ?_
  exact s_zreturn rfl (o_ck_c h) dX12_isNowDrunk_26 ⟨_, rfl, o_ck_c h, o_ret (o_ck_k h)⟩
set_option maxRecDepth 20000 in
theorem dnX12_isNowDrunk {X : o_Cx} (hX : o_ok X) {d : Nat} {a0 : Nat} {x1 : Int32} {μ0 : o_Mem} {q : Int32 → o_Mem → Prop} (h0 : o_is X a0 (.inl 12)) (h : o_Post (fX12_isNowDrunk (o_rf X) a0 x1 μ0) q) : o_Ev X (d + 0) mX12_isNowDrunk 0 [some (.ref (o_ad X a0)), some (.int x1), none] [] μ0 (o_QZ q) := by
  unfold fX12_isNowDrunk at h
  refine s_aload_n (i := 0) dX12_isNowDrunk_0 rfl rfl ?_
  refine s_getR hX h0 flX12_7 rfl dX12_isNowDrunk_1 (fun (g1 : o_is X (o_rf X a0 0) (.inr (0, 3756))) => ?_)
  refine s_bipush dX12_isNowDrunk_4 kB_8 ?_
  refine s_ialdK g1 ⟨by decide, by decide⟩ kN_8 dX12_isNowDrunk_6 ?_
  refine s_iload_n (i := 1) dX12_isNowDrunk_7 rfl rfl ?_
  refine s_icmp_eq (tgt := 15) dX12_isNowDrunk_8 rfl (fun c1 => ?_) (fun c1 => ?_)
  · have h := o_if_t c1 h
    refine s_iconst dX12_isNowDrunk_15 kI_0 ?_
    refine s_mask [true, true, false] (L' := [some (.ref (o_ad X a0)), some (.int x1), none]) rfl ?_
    exact dnX12_isNowDrunk_j16 hX h0 h
  · have h := o_if_f c1 h
    refine s_iconst dX12_isNowDrunk_11 kI_1 ?_
    refine s_goto (tgt := 16) dX12_isNowDrunk_12 rfl ?_
    refine s_mask [true, true, false] (L' := [some (.ref (o_ad X a0)), some (.int x1), none]) rfl ?_
    exact dnX12_isNowDrunk_j16 hX h0 h
theorem dX12_does_0 : decode cX12_does 0 = .ok (.aload_n 0, 1) := by decide +kernel
theorem dX12_does_1 : decode cX12_does 1 = .ok (.getfield 7, 3) := by decide +kernel
theorem dX12_does_4 : decode cX12_does 4 = .ok (.iload_n 1, 1) := by decide +kernel
theorem dX12_does_5 : decode cX12_does 5 = .ok (.iaload, 1) := by decide +kernel
theorem dX12_does_6 : decode cX12_does 6 = .ok (.tableswitch 118 15 19 #[34, 47, 76, 82, 88], 34) := by decide +kernel
theorem dX12_does_40 : decode cX12_does 40 = .ok (.aload_n 0, 1) := by decide +kernel
theorem dX12_does_41 : decode cX12_does 41 = .ok (.aload_n 0, 1) := by decide +kernel
theorem dX12_does_42 : decode cX12_does 42 = .ok (.getfield 7, 3) := by decide +kernel
theorem dX12_does_45 : decode cX12_does 45 = .ok (.iload_n 1, 1) := by decide +kernel
theorem dX12_does_46 : decode cX12_does 46 = .ok (.iconst 1, 1) := by decide +kernel
theorem dX12_does_47 : decode cX12_does 47 = .ok (.iadd, 1) := by decide +kernel
theorem dX12_does_48 : decode cX12_does 48 = .ok (.iaload, 1) := by decide +kernel
theorem dX12_does_49 : decode cX12_does 49 = .ok (.invokevirtual 453, 3) := by decide +kernel
theorem dX12_does_52 : decode cX12_does 52 = .ok (.ireturn, 1) := by decide +kernel
theorem dX12_does_53 : decode cX12_does 53 = .ok (.aload_n 0, 1) := by decide +kernel
theorem dX12_does_54 : decode cX12_does 54 = .ok (.aload_n 0, 1) := by decide +kernel
theorem dX12_does_55 : decode cX12_does 55 = .ok (.getfield 7, 3) := by decide +kernel
theorem dX12_does_58 : decode cX12_does 58 = .ok (.iload_n 1, 1) := by decide +kernel
theorem dX12_does_59 : decode cX12_does 59 = .ok (.iconst 1, 1) := by decide +kernel
theorem dX12_does_60 : decode cX12_does 60 = .ok (.iadd, 1) := by decide +kernel
theorem dX12_does_61 : decode cX12_does 61 = .ok (.iaload, 1) := by decide +kernel
theorem dX12_does_62 : decode cX12_does 62 = .ok (.aload_n 0, 1) := by decide +kernel
theorem dX12_does_63 : decode cX12_does 63 = .ok (.getfield 7, 3) := by decide +kernel
theorem dX12_does_66 : decode cX12_does 66 = .ok (.iload_n 1, 1) := by decide +kernel
theorem dX12_does_67 : decode cX12_does 67 = .ok (.iconst 2, 1) := by decide +kernel
theorem dX12_does_68 : decode cX12_does 68 = .ok (.iadd, 1) := by decide +kernel
theorem dX12_does_69 : decode cX12_does 69 = .ok (.iaload, 1) := by decide +kernel
theorem dX12_does_70 : decode cX12_does 70 = .ok (.aload_n 0, 1) := by decide +kernel
theorem dX12_does_71 : decode cX12_does 71 = .ok (.getfield 7, 3) := by decide +kernel
theorem dX12_does_74 : decode cX12_does 74 = .ok (.iload_n 1, 1) := by decide +kernel
theorem dX12_does_75 : decode cX12_does 75 = .ok (.iconst 3, 1) := by decide +kernel
theorem dX12_does_76 : decode cX12_does 76 = .ok (.iadd, 1) := by decide +kernel
theorem dX12_does_77 : decode cX12_does 77 = .ok (.iaload, 1) := by decide +kernel
theorem dX12_does_78 : decode cX12_does 78 = .ok (.invokevirtual 456, 3) := by decide +kernel
theorem dX12_does_81 : decode cX12_does 81 = .ok (.ireturn, 1) := by decide +kernel
theorem dX12_does_82 : decode cX12_does 82 = .ok (.aload_n 0, 1) := by decide +kernel
theorem dX12_does_83 : decode cX12_does 83 = .ok (.iconst 1, 1) := by decide +kernel
theorem dX12_does_84 : decode cX12_does 84 = .ok (.invokevirtual 459, 3) := by decide +kernel
theorem dX12_does_87 : decode cX12_does 87 = .ok (.ireturn, 1) := by decide +kernel
theorem dX12_does_88 : decode cX12_does 88 = .ok (.aload_n 0, 1) := by decide +kernel
theorem dX12_does_89 : decode cX12_does 89 = .ok (.iconst 0, 1) := by decide +kernel
theorem dX12_does_90 : decode cX12_does 90 = .ok (.invokevirtual 459, 3) := by decide +kernel
theorem dX12_does_93 : decode cX12_does 93 = .ok (.ireturn, 1) := by decide +kernel
theorem dX12_does_94 : decode cX12_does 94 = .ok (.aload_n 0, 1) := by decide +kernel
theorem dX12_does_95 : decode cX12_does 95 = .ok (.getfield 7, 3) := by decide +kernel
theorem dX12_does_98 : decode cX12_does 98 = .ok (.bipush 8, 2) := by decide +kernel
theorem dX12_does_100 : decode cX12_does 100 = .ok (.aload_n 0, 1) := by decide +kernel
theorem dX12_does_101 : decode cX12_does 101 = .ok (.bipush 16, 2) := by decide +kernel
theorem dX12_does_103 : decode cX12_does 103 = .ok (.invokevirtual 462, 3) := by decide +kernel
theorem dX12_does_106 : decode cX12_does 106 = .ok (.aload_n 0, 1) := by decide +kernel
theorem dX12_does_107 : decode cX12_does 107 = .ok (.getfield 7, 3) := by decide +kernel
theorem dX12_does_110 : decode cX12_does 110 = .ok (.bipush 6, 2) := by decide +kernel
theorem dX12_does_112 : decode cX12_does 112 = .ok (.iaload, 1) := by decide +kernel
theorem dX12_does_113 : decode cX12_does 113 = .ok (.if_icmp .ge 7, 3) := by decide +kernel
theorem dX12_does_116 : decode cX12_does 116 = .ok (.iconst 1, 1) := by decide +kernel
theorem dX12_does_117 : decode cX12_does 117 = .ok (.goto 4, 3) := by decide +kernel
theorem dX12_does_120 : decode cX12_does 120 = .ok (.iconst 0, 1) := by decide +kernel
theorem dX12_does_121 : decode cX12_does 121 = .ok (.iastore, 1) := by decide +kernel
theorem dX12_does_122 : decode cX12_does 122 = .ok (.iconst 1, 1) := by decide +kernel
theorem dX12_does_123 : decode cX12_does 123 = .ok (.ireturn, 1) := by decide +kernel
theorem dX12_does_124 : decode cX12_does 124 = .ok (.iconst 1, 1) := by decide +kernel
theorem dX12_does_125 : decode cX12_does 125 = .ok (.ireturn, 1) := by decide +kernel
noncomputable def fX12_does_j121 (rf : Nat → Nat → Nat) (b0 : Nat) (y1 : Int32) (y2 : Int32) (μ0 : o_Mem) : Option (Int32 × o_Mem) :=
  o_ck (0 ≤ (y1).toInt ∧ (y1).toInt < 3756) <|
  o_seq (o_wI μ0 b0 y1.toNatClampNeg y2) fun μ1 =>
  some (1, μ1)
noncomputable def fX12_does (rf : Nat → Nat → Nat) (a0 : Nat) (x1 : Int32) (μ0 : o_Mem) : Option (Int32 × o_Mem) :=
  o_ck (0 ≤ (x1).toInt ∧ (x1).toInt < 3756) <|
  if (μ0.1 (rf a0 0) x1.toNatClampNeg) = 15 then (
    o_ck (0 ≤ ((x1 + 1)).toInt ∧ ((x1 + 1)).toInt < 3756) <|
    o_bd (fX12_daysBy rf a0 (μ0.1 (rf a0 0) ((x1 + 1)).toNatClampNeg) μ0) fun r1 μ1 =>
    some (r1, μ1))
  else
  if (μ0.1 (rf a0 0) x1.toNatClampNeg) = 16 then (
    o_ck (0 ≤ ((x1 + 1)).toInt ∧ ((x1 + 1)).toInt < 3756) <|
    o_ck (0 ≤ ((x1 + 2)).toInt ∧ ((x1 + 2)).toInt < 3756) <|
    o_ck (0 ≤ ((x1 + 3)).toInt ∧ ((x1 + 3)).toInt < 3756) <|
    o_bd (fX12_postsBy rf a0 (μ0.1 (rf a0 0) ((x1 + 1)).toNatClampNeg) (μ0.1 (rf a0 0) ((x1 + 2)).toNatClampNeg) (μ0.1 (rf a0 0) ((x1 + 3)).toNatClampNeg) μ0) fun r2 μ2 =>
    some (r2, μ2))
  else
  if (μ0.1 (rf a0 0) x1.toNatClampNeg) = 17 then (
    o_bd (fX12_isNowDrunk rf a0 1 μ0) fun r3 μ3 =>
    some (r3, μ3))
  else
  if (μ0.1 (rf a0 0) x1.toNatClampNeg) = 18 then (
    o_bd (fX12_isNowDrunk rf a0 0 μ0) fun r4 μ4 =>
    some (r4, μ4))
  else
  if (μ0.1 (rf a0 0) x1.toNatClampNeg) = 19 then (
    o_bd (fX12_draw rf a0 16 μ0) fun r5 μ5 =>
    if (μ5.1 (rf a0 0) 6) ≤ r5 then (
      fX12_does_j121 rf (rf a0 0) 8 0 μ5)
    else (
      fX12_does_j121 rf (rf a0 0) 8 1 μ5))
  else
    some (1, μ0)
set_option maxRecDepth 20000 in
theorem dnX12_does_j121 {X : o_Cx} (hX : o_ok X) {d : Nat} {b0 : Nat} {y1 : Int32} {y2 : Int32} {μ0 : o_Mem} {q : Int32 → o_Mem → Prop} (hb0 : o_is X b0 (.inr (0, 3756))) (h : o_Post (fX12_does_j121 (o_rf X) b0 y1 y2 μ0) q) : o_Ev X (d + 9) mX12_does 121 [none, none] [.int y2, .int y1, .ref (o_ad X b0)] μ0 (o_QZ q) := by
  unfold fX12_does_j121 at h
  have hc := o_ck_c h
  have h := o_ck_k h
  refine s_iastK hX hb0 hc rfl dX12_does_121 (o_gen h (fun μ1 h => ?_))
  refine s_iconst dX12_does_122 kI_1 ?_
  exact s_zreturn rfl (Or.inr rfl) dX12_does_123 ⟨_, rfl, (Or.inr rfl), o_ret h⟩
set_option maxRecDepth 20000 in
theorem dnX12_does {X : o_Cx} (hX : o_ok X) {d : Nat} {a0 : Nat} {x1 : Int32} {μ0 : o_Mem} {q : Int32 → o_Mem → Prop} (h0 : o_is X a0 (.inl 12)) (h : o_Post (fX12_does (o_rf X) a0 x1 μ0) q) : o_Ev X (d + 9) mX12_does 0 [some (.ref (o_ad X a0)), some (.int x1)] [] μ0 (o_QZ q) := by
  unfold fX12_does at h
  refine s_aload_n (i := 0) dX12_does_0 rfl rfl ?_
  refine s_getR hX h0 flX12_7 rfl dX12_does_1 (fun (g1 : o_is X (o_rf X a0 0) (.inr (0, 3756))) => ?_)
  refine s_iload_n (i := 1) dX12_does_4 rfl rfl ?_
  have hc := o_ck_c h
  have h := o_ck_k h
  refine s_ialdK g1 hc rfl dX12_does_5 ?_
  by_cases e15 : (μ0.1 (o_rf X a0 0) x1.toNatClampNeg) = 15
  · have h := o_if_t e15 h
    refine s_table (off := 34) (tgt := 40) dX12_does_6 rfl (by rw [e15]; decide) rfl ?_
    refine s_aload_n (i := 0) dX12_does_40 rfl rfl ?_
    refine s_aload_n (i := 0) dX12_does_41 rfl rfl ?_
    refine s_getR hX h0 flX12_7 rfl dX12_does_42 (fun (g2 : o_is X (o_rf X a0 0) (.inr (0, 3756))) => ?_)
    refine s_iload_n (i := 1) dX12_does_45 rfl rfl ?_
    refine s_iconst dX12_does_46 kI_1 ?_
    refine s_iadd dX12_does_47 ?_
    have hc := o_ck_c h
    have h := o_ck_k h
    refine s_ialdK g2 hc rfl dX12_does_48 ?_
    refine s_callVz (C := mX12_daysBy) (As := [.int (μ0.1 (o_rf X a0 0) ((x1 + 1)).toNatClampNeg)]) (rest := []) (L0 := [some (.ref (o_ad X a0)), some (.int (μ0.1 (o_rf X a0 0) ((x1 + 1)).toNatClampNeg))]) hX h0 clX12_453 dX12_does_49 rfl rfl (Nat.le_of_ble_eq_true rfl) (Nat.le_of_ble_eq_true rfl) (dnX12_daysBy hX h0 (o_bdp h)) (fun r1 μ1 zr1 h => ?_)
    exact s_zreturn rfl zr1 dX12_does_52 ⟨_, rfl, zr1, o_ret h⟩
  have h := o_if_f e15 h
  by_cases e16 : (μ0.1 (o_rf X a0 0) x1.toNatClampNeg) = 16
  · have h := o_if_t e16 h
    refine s_table (off := 47) (tgt := 53) dX12_does_6 rfl (by rw [e16]; decide) rfl ?_
    refine s_aload_n (i := 0) dX12_does_53 rfl rfl ?_
    refine s_aload_n (i := 0) dX12_does_54 rfl rfl ?_
    refine s_getR hX h0 flX12_7 rfl dX12_does_55 (fun (g3 : o_is X (o_rf X a0 0) (.inr (0, 3756))) => ?_)
    refine s_iload_n (i := 1) dX12_does_58 rfl rfl ?_
    refine s_iconst dX12_does_59 kI_1 ?_
    refine s_iadd dX12_does_60 ?_
    have hc := o_ck_c h
    have h := o_ck_k h
    refine s_ialdK g3 hc rfl dX12_does_61 ?_
    refine s_aload_n (i := 0) dX12_does_62 rfl rfl ?_
    refine s_getR hX h0 flX12_7 rfl dX12_does_63 (fun (g4 : o_is X (o_rf X a0 0) (.inr (0, 3756))) => ?_)
    refine s_iload_n (i := 1) dX12_does_66 rfl rfl ?_
    refine s_iconst dX12_does_67 kI_2 ?_
    refine s_iadd dX12_does_68 ?_
    have hc := o_ck_c h
    have h := o_ck_k h
    refine s_ialdK g4 hc rfl dX12_does_69 ?_
    refine s_aload_n (i := 0) dX12_does_70 rfl rfl ?_
    refine s_getR hX h0 flX12_7 rfl dX12_does_71 (fun (g5 : o_is X (o_rf X a0 0) (.inr (0, 3756))) => ?_)
    refine s_iload_n (i := 1) dX12_does_74 rfl rfl ?_
    refine s_iconst dX12_does_75 kI_3 ?_
    refine s_iadd dX12_does_76 ?_
    have hc := o_ck_c h
    have h := o_ck_k h
    refine s_ialdK g5 hc rfl dX12_does_77 ?_
    refine s_callVz (C := mX12_postsBy) (As := [.int (μ0.1 (o_rf X a0 0) ((x1 + 1)).toNatClampNeg), .int (μ0.1 (o_rf X a0 0) ((x1 + 2)).toNatClampNeg), .int (μ0.1 (o_rf X a0 0) ((x1 + 3)).toNatClampNeg)]) (rest := []) (L0 := [some (.ref (o_ad X a0)), some (.int (μ0.1 (o_rf X a0 0) ((x1 + 1)).toNatClampNeg)), some (.int (μ0.1 (o_rf X a0 0) ((x1 + 2)).toNatClampNeg)), some (.int (μ0.1 (o_rf X a0 0) ((x1 + 3)).toNatClampNeg))]) hX h0 clX12_456 dX12_does_78 rfl rfl (Nat.le_of_ble_eq_true rfl) (Nat.le_of_ble_eq_true rfl) (dnX12_postsBy hX h0 (o_bdp h)) (fun r2 μ2 zr2 h => ?_)
    exact s_zreturn rfl zr2 dX12_does_81 ⟨_, rfl, zr2, o_ret h⟩
  have h := o_if_f e16 h
  by_cases e17 : (μ0.1 (o_rf X a0 0) x1.toNatClampNeg) = 17
  · have h := o_if_t e17 h
    refine s_table (off := 76) (tgt := 82) dX12_does_6 rfl (by rw [e17]; decide) rfl ?_
    refine s_aload_n (i := 0) dX12_does_82 rfl rfl ?_
    refine s_iconst dX12_does_83 kI_1 ?_
    refine s_callVz (C := mX12_isNowDrunk) (As := [.int 1]) (rest := []) (L0 := [some (.ref (o_ad X a0)), some (.int 1), none]) hX h0 clX12_459 dX12_does_84 rfl rfl (Nat.le_of_ble_eq_true rfl) (Nat.le_of_ble_eq_true rfl) (dnX12_isNowDrunk hX h0 (o_bdp h)) (fun r3 μ3 zr3 h => ?_)
    exact s_zreturn rfl zr3 dX12_does_87 ⟨_, rfl, zr3, o_ret h⟩
  have h := o_if_f e17 h
  by_cases e18 : (μ0.1 (o_rf X a0 0) x1.toNatClampNeg) = 18
  · have h := o_if_t e18 h
    refine s_table (off := 82) (tgt := 88) dX12_does_6 rfl (by rw [e18]; decide) rfl ?_
    refine s_aload_n (i := 0) dX12_does_88 rfl rfl ?_
    refine s_iconst dX12_does_89 kI_0 ?_
    refine s_callVz (C := mX12_isNowDrunk) (As := [.int 0]) (rest := []) (L0 := [some (.ref (o_ad X a0)), some (.int 0), none]) hX h0 clX12_459 dX12_does_90 rfl rfl (Nat.le_of_ble_eq_true rfl) (Nat.le_of_ble_eq_true rfl) (dnX12_isNowDrunk hX h0 (o_bdp h)) (fun r4 μ4 zr4 h => ?_)
    exact s_zreturn rfl zr4 dX12_does_93 ⟨_, rfl, zr4, o_ret h⟩
  have h := o_if_f e18 h
  by_cases e19 : (μ0.1 (o_rf X a0 0) x1.toNatClampNeg) = 19
  · have h := o_if_t e19 h
    refine s_table (off := 88) (tgt := 94) dX12_does_6 rfl (by rw [e19]; decide) rfl ?_
    refine s_aload_n (i := 0) dX12_does_94 rfl rfl ?_
    refine s_getR hX h0 flX12_7 rfl dX12_does_95 (fun (g6 : o_is X (o_rf X a0 0) (.inr (0, 3756))) => ?_)
    refine s_bipush dX12_does_98 kB_8 ?_
    refine s_aload_n (i := 0) dX12_does_100 rfl rfl ?_
    refine s_bipush dX12_does_101 kB_16 ?_
    refine s_callVi (C := mX12_draw) (As := [.int 16]) (rest := [.int 8, .ref (o_ad X (o_rf X a0 0))]) (L0 := [some (.ref (o_ad X a0)), some (.int 16)]) hX h0 clX12_462 dX12_does_103 rfl rfl (Nat.le_of_ble_eq_true rfl) (Nat.le_of_ble_eq_true rfl) (dnX12_draw hX h0 (o_bdp h)) (fun r5 μ5 h => ?_)
    refine s_aload_n (i := 0) dX12_does_106 rfl rfl ?_
    refine s_getR hX h0 flX12_7 rfl dX12_does_107 (fun (g7 : o_is X (o_rf X a0 0) (.inr (0, 3756))) => ?_)
    refine s_bipush dX12_does_110 kB_6 ?_
    refine s_ialdK g7 ⟨by decide, by decide⟩ kN_6 dX12_does_112 ?_
    refine s_icmp_ge (tgt := 120) dX12_does_113 rfl (fun c1 => ?_) (fun c1 => ?_)
    · have h := o_if_t c1 h
      refine s_iconst dX12_does_120 kI_0 ?_
      refine s_mask [false, false] (L' := [none, none]) rfl ?_
      exact dnX12_does_j121 hX g6 h
    · have h := o_if_f c1 h
      refine s_iconst dX12_does_116 kI_1 ?_
      refine s_goto (tgt := 121) dX12_does_117 rfl ?_
      refine s_mask [false, false] (L' := [none, none]) rfl ?_
      exact dnX12_does_j121 hX g6 h
  have h := o_if_f e19 h
  have n15 := lv_neT (a := 15) e15 (by decide)
  have n16 := lv_neT (a := 16) e16 (by decide)
  have n17 := lv_neT (a := 17) e17 (by decide)
  have n18 := lv_neT (a := 18) e18 (by decide)
  have n19 := lv_neT (a := 19) e19 (by decide)
  have hz : ((μ0.1 (o_rf X a0 0) x1.toNatClampNeg)).toInt < 15 ∨ 19 < ((μ0.1 (o_rf X a0 0) x1.toNatClampNeg)).toInt := by omega
  refine s_table (off := 118) (tgt := 124) dX12_does_6 rfl (o_tabD hz) rfl ?_
  refine s_iconst dX12_does_124 kI_1 ?_
  exact s_zreturn rfl (Or.inr rfl) dX12_does_125 ⟨_, rfl, (Or.inr rfl), o_ret h⟩
theorem dX12_hasCover_0 : decode cX12_hasCover 0 = .ok (.iconst 0, 1) := by decide +kernel
theorem dX12_hasCover_1 : decode cX12_hasCover 1 = .ok (.istore_n 2, 1) := by decide +kernel
theorem dX12_hasCover_2 : decode cX12_hasCover 2 = .ok (.iload_n 2, 1) := by decide +kernel
theorem dX12_hasCover_3 : decode cX12_hasCover 3 = .ok (.aload_n 0, 1) := by decide +kernel
theorem dX12_hasCover_4 : decode cX12_hasCover 4 = .ok (.getfield 7, 3) := by decide +kernel
theorem dX12_hasCover_7 : decode cX12_hasCover 7 = .ok (.iconst 5, 1) := by decide +kernel
theorem dX12_hasCover_8 : decode cX12_hasCover 8 = .ok (.iaload, 1) := by decide +kernel
theorem dX12_hasCover_9 : decode cX12_hasCover 9 = .ok (.if_icmp .ge 26, 3) := by decide +kernel
theorem dX12_hasCover_12 : decode cX12_hasCover 12 = .ok (.aload_n 0, 1) := by decide +kernel
theorem dX12_hasCover_13 : decode cX12_hasCover 13 = .ok (.getfield 7, 3) := by decide +kernel
theorem dX12_hasCover_16 : decode cX12_hasCover 16 = .ok (.iload_n 2, 1) := by decide +kernel
theorem dX12_hasCover_17 : decode cX12_hasCover 17 = .ok (.invokestatic 311, 3) := by decide +kernel
theorem dX12_hasCover_20 : decode cX12_hasCover 20 = .ok (.iconst 4, 1) := by decide +kernel
theorem dX12_hasCover_21 : decode cX12_hasCover 21 = .ok (.iadd, 1) := by decide +kernel
theorem dX12_hasCover_22 : decode cX12_hasCover 22 = .ok (.iaload, 1) := by decide +kernel
theorem dX12_hasCover_23 : decode cX12_hasCover 23 = .ok (.iload_n 1, 1) := by decide +kernel
theorem dX12_hasCover_24 : decode cX12_hasCover 24 = .ok (.if_icmp .ne 5, 3) := by decide +kernel
theorem dX12_hasCover_27 : decode cX12_hasCover 27 = .ok (.iconst 1, 1) := by decide +kernel
theorem dX12_hasCover_28 : decode cX12_hasCover 28 = .ok (.ireturn, 1) := by decide +kernel
theorem dX12_hasCover_29 : decode cX12_hasCover 29 = .ok (.iinc 2 1, 3) := by decide +kernel
theorem dX12_hasCover_32 : decode cX12_hasCover 32 = .ok (.goto (-30), 3) := by decide +kernel
theorem dX12_hasCover_35 : decode cX12_hasCover 35 = .ok (.iconst 0, 1) := by decide +kernel
theorem dX12_hasCover_36 : decode cX12_hasCover 36 = .ok (.ireturn, 1) := by decide +kernel
noncomputable def fX12_hasCover_s2 (rf : Nat → Nat → Nat) (a0 : Nat) (x1 : Int32) (τ2 : Int32) (μ0 : o_Mem) : Option ((Nat × (Int32)) × o_Mem) :=
  if (μ0.1 (rf a0 0) 5) ≤ τ2 then (
    some ((35, 0), μ0))
  else (
    o_bd (fX12_coverRow rf τ2 μ0) fun r1 μ1 =>
    o_ck (0 ≤ ((r1 + 4)).toInt ∧ ((r1 + 4)).toInt < 3756) <|
    if (μ1.1 (rf a0 0) ((r1 + 4)).toNatClampNeg) = x1 then (
      some ((27, 0), μ1))
    else (
      some ((2, (τ2 + 1)), μ1)))
noncomputable def fX12_hasCover (rf : Nat → Nat → Nat) (a0 : Nat) (x1 : Int32) (μ0 : o_Mem) : Option (Int32 × o_Mem) :=
  o_bd (o_lp 2 (fX12_hasCover_s2 rf a0 x1) o_fuel (0 : Int32) μ0) fun ex1 μ1 =>
  if ex1.1 = 27 then (
    some (1, μ1))
  else
  if ex1.1 = 35 then (
    some (0, μ1))
  else
    none
set_option maxRecDepth 20000 in
theorem dnX12_hasCover_s2 {X : o_Cx} (hX : o_ok X) {d : Nat} {a0 : Nat} {x1 : Int32} {τ2 : Int32} {μ0 : o_Mem} {K : (Nat × (Int32)) → o_Mem → Prop} {Q : Option Value → o_Mem → Prop} (h0 : o_is X a0 (.inl 12)) (h : o_Post (fX12_hasCover_s2 (o_rf X) a0 x1 τ2 μ0) K) (kh : ∀ (τ2 : Int32) (μ : o_Mem), K (2, τ2) μ → o_Ev X (d + 1) mX12_hasCover 2 [some (.ref (o_ad X a0)), some (.int x1), some (.int τ2)] [] μ Q) (k27 : ∀ (τ2 : Int32) (μ : o_Mem), K (27, τ2) μ → o_Ev X (d + 1) mX12_hasCover 27 [none, none, none] [] μ Q) (k35 : ∀ (τ2 : Int32) (μ : o_Mem), K (35, τ2) μ → o_Ev X (d + 1) mX12_hasCover 35 [none, none, none] [] μ Q) : o_Ev X (d + 1) mX12_hasCover 2 [some (.ref (o_ad X a0)), some (.int x1), some (.int τ2)] [] μ0 Q := by
  unfold fX12_hasCover_s2 at h
  refine s_iload_n (i := 2) dX12_hasCover_2 rfl rfl ?_
  refine s_aload_n (i := 0) dX12_hasCover_3 rfl rfl ?_
  refine s_getR hX h0 flX12_7 rfl dX12_hasCover_4 (fun (g1 : o_is X (o_rf X a0 0) (.inr (0, 3756))) => ?_)
  refine s_iconst dX12_hasCover_7 kI_5 ?_
  refine s_ialdK g1 ⟨by decide, by decide⟩ kN_5 dX12_hasCover_8 ?_
  refine s_icmp_ge (tgt := 35) dX12_hasCover_9 rfl (fun c1 => ?_) (fun c1 => ?_)
  · have h := o_if_t c1 h
    refine s_mask [false, false, false] (L' := [none, none, none]) rfl ?_
    exact k35 0 _ (o_ret h)
  · have h := o_if_f c1 h
    refine s_aload_n (i := 0) dX12_hasCover_12 rfl rfl ?_
    refine s_getR hX h0 flX12_7 rfl dX12_hasCover_13 (fun (g2 : o_is X (o_rf X a0 0) (.inr (0, 3756))) => ?_)
    refine s_iload_n (i := 2) dX12_hasCover_16 rfl rfl ?_
    refine s_callSi (C := mX12_coverRow) (As := [.int τ2]) (rest := [.ref (o_ad X (o_rf X a0 0))]) (L0 := [some (.int τ2)]) clX12_311 dX12_hasCover_17 rfl rfl (Nat.le_of_ble_eq_true rfl) (Nat.le_of_ble_eq_true rfl) (dnX12_coverRow hX  (o_bdp h)) (fun r1 μ1 h => ?_)
    refine s_iconst dX12_hasCover_20 kI_4 ?_
    refine s_iadd dX12_hasCover_21 ?_
    have hc := o_ck_c h
    have h := o_ck_k h
    refine s_ialdK g2 hc rfl dX12_hasCover_22 ?_
    refine s_iload_n (i := 1) dX12_hasCover_23 rfl rfl ?_
    refine s_icmp_ne (tgt := 29) dX12_hasCover_24 rfl (fun c1 => ?_) (fun c1 => ?_)
    · have h := o_if_f c1 h
      refine s_iinc (v := (τ2 + 1)) dX12_hasCover_29 rfl rfl (Nat.le_of_ble_eq_true rfl) rfl ?_
      refine s_goto (tgt := 2) dX12_hasCover_32 rfl ?_
      refine s_mask [true, true, true] (L' := [some (.ref (o_ad X a0)), some (.int x1), some (.int (τ2 + 1))]) rfl ?_
      exact kh (τ2 + 1) _ (o_ret h)
    · have h := o_if_t c1 h
      refine s_mask [false, false, false] (L' := [none, none, none]) rfl ?_
      exact k27 0 _ (o_ret h)
set_option maxRecDepth 20000 in
theorem dnX12_hasCover {X : o_Cx} (hX : o_ok X) {d : Nat} {a0 : Nat} {x1 : Int32} {μ0 : o_Mem} {q : Int32 → o_Mem → Prop} (h0 : o_is X a0 (.inl 12)) (h : o_Post (fX12_hasCover (o_rf X) a0 x1 μ0) q) : o_Ev X (d + 1) mX12_hasCover 0 [some (.ref (o_ad X a0)), some (.int x1), none] [] μ0 (o_QZ q) := by
  unfold fX12_hasCover at h
  refine s_iconst dX12_hasCover_0 kI_0 ?_
  refine s_istore_n (i := 2) dX12_hasCover_1 rfl (Nat.le_of_ble_eq_true rfl) rfl ?_
  refine s_mask [true, true, true] (L' := [some (.ref (o_ad X a0)), some (.int x1), some (.int 0)]) rfl ?_
  refine o_lp_ev (fun τ2 => [some (.ref (o_ad X a0)), some (.int x1), some (.int τ2)]) (fun τ2 μ _K h kv ke2 => dnX12_hasCover_s2 hX h0 h kv (fun τ2 μ1 h => ?_) (fun τ2 μ1 h => ?_)) o_fuel 0 μ0 (o_bdp h)
  · have h := o_if_t rfl (ke2 (27, τ2) μ1 (o_ne rfl) h)
    refine s_iconst dX12_hasCover_27 kI_1 ?_
    exact s_zreturn rfl (Or.inr rfl) dX12_hasCover_28 ⟨_, rfl, (Or.inr rfl), o_ret h⟩
  · have h := o_if_t rfl (o_if_f (o_ne rfl) (ke2 (35, τ2) μ1 (o_ne rfl) h))
    refine s_iconst dX12_hasCover_35 kI_0 ?_
    exact s_zreturn rfl (Or.inl rfl) dX12_hasCover_36 ⟨_, rfl, (Or.inl rfl), o_ret h⟩
theorem dX12_holds_0 : decode cX12_holds 0 = .ok (.aload_n 0, 1) := by decide +kernel
theorem dX12_holds_1 : decode cX12_holds 1 = .ok (.getfield 7, 3) := by decide +kernel
theorem dX12_holds_4 : decode cX12_holds 4 = .ok (.iload_n 1, 1) := by decide +kernel
theorem dX12_holds_5 : decode cX12_holds 5 = .ok (.iaload, 1) := by decide +kernel
theorem dX12_holds_6 : decode cX12_holds 6 = .ok (.sipush 2000, 3) := by decide +kernel
theorem dX12_holds_9 : decode cX12_holds 9 = .ok (.isub, 1) := by decide +kernel
theorem dX12_holds_10 : decode cX12_holds 10 = .ok (.istore_n 2, 1) := by decide +kernel
theorem dX12_holds_11 : decode cX12_holds 11 = .ok (.iload_n 2, 1) := by decide +kernel
theorem dX12_holds_12 : decode cX12_holds 12 = .ok (.bipush 24, 2) := by decide +kernel
theorem dX12_holds_14 : decode cX12_holds 14 = .ok (.if_icmp .ne 16, 3) := by decide +kernel
theorem dX12_holds_17 : decode cX12_holds 17 = .ok (.aload_n 0, 1) := by decide +kernel
theorem dX12_holds_18 : decode cX12_holds 18 = .ok (.aload_n 0, 1) := by decide +kernel
theorem dX12_holds_19 : decode cX12_holds 19 = .ok (.getfield 7, 3) := by decide +kernel
theorem dX12_holds_22 : decode cX12_holds 22 = .ok (.iload_n 1, 1) := by decide +kernel
theorem dX12_holds_23 : decode cX12_holds 23 = .ok (.iconst 1, 1) := by decide +kernel
theorem dX12_holds_24 : decode cX12_holds 24 = .ok (.iadd, 1) := by decide +kernel
theorem dX12_holds_25 : decode cX12_holds 25 = .ok (.iaload, 1) := by decide +kernel
theorem dX12_holds_26 : decode cX12_holds 26 = .ok (.invokevirtual 465, 3) := by decide +kernel
theorem dX12_holds_29 : decode cX12_holds 29 = .ok (.ireturn, 1) := by decide +kernel
theorem dX12_holds_30 : decode cX12_holds 30 = .ok (.iload_n 2, 1) := by decide +kernel
theorem dX12_holds_31 : decode cX12_holds 31 = .ok (.bipush 26, 2) := by decide +kernel
theorem dX12_holds_33 : decode cX12_holds 33 = .ok (.if_icmp .ne 20, 3) := by decide +kernel
theorem dX12_holds_36 : decode cX12_holds 36 = .ok (.aload_n 0, 1) := by decide +kernel
theorem dX12_holds_37 : decode cX12_holds 37 = .ok (.getfield 7, 3) := by decide +kernel
theorem dX12_holds_40 : decode cX12_holds 40 = .ok (.bipush 8, 2) := by decide +kernel
theorem dX12_holds_42 : decode cX12_holds 42 = .ok (.iaload, 1) := by decide +kernel
theorem dX12_holds_43 : decode cX12_holds 43 = .ok (.iconst 1, 1) := by decide +kernel
theorem dX12_holds_44 : decode cX12_holds 44 = .ok (.if_icmp .ne 7, 3) := by decide +kernel
theorem dX12_holds_47 : decode cX12_holds 47 = .ok (.iconst 1, 1) := by decide +kernel
theorem dX12_holds_48 : decode cX12_holds 48 = .ok (.goto 4, 3) := by decide +kernel
theorem dX12_holds_51 : decode cX12_holds 51 = .ok (.iconst 0, 1) := by decide +kernel
theorem dX12_holds_52 : decode cX12_holds 52 = .ok (.ireturn, 1) := by decide +kernel
theorem dX12_holds_53 : decode cX12_holds 53 = .ok (.aload_n 0, 1) := by decide +kernel
theorem dX12_holds_54 : decode cX12_holds 54 = .ok (.getfield 7, 3) := by decide +kernel
theorem dX12_holds_57 : decode cX12_holds 57 = .ok (.iconst 4, 1) := by decide +kernel
theorem dX12_holds_58 : decode cX12_holds 58 = .ok (.iaload, 1) := by decide +kernel
theorem dX12_holds_59 : decode cX12_holds 59 = .ok (.istore_n 3, 1) := by decide +kernel
theorem dX12_holds_60 : decode cX12_holds 60 = .ok (.aload_n 0, 1) := by decide +kernel
theorem dX12_holds_61 : decode cX12_holds 61 = .ok (.getfield 7, 3) := by decide +kernel
theorem dX12_holds_64 : decode cX12_holds 64 = .ok (.iload_n 1, 1) := by decide +kernel
theorem dX12_holds_65 : decode cX12_holds 65 = .ok (.iconst 5, 1) := by decide +kernel
theorem dX12_holds_66 : decode cX12_holds 66 = .ok (.iadd, 1) := by decide +kernel
theorem dX12_holds_67 : decode cX12_holds 67 = .ok (.iaload, 1) := by decide +kernel
theorem dX12_holds_68 : decode cX12_holds 68 = .ok (.bipush 60, 2) := by decide +kernel
theorem dX12_holds_70 : decode cX12_holds 70 = .ok (.if_icmp .ne 23, 3) := by decide +kernel
theorem dX12_holds_73 : decode cX12_holds 73 = .ok (.iload_n 3, 1) := by decide +kernel
theorem dX12_holds_74 : decode cX12_holds 74 = .ok (.aload_n 0, 1) := by decide +kernel
theorem dX12_holds_75 : decode cX12_holds 75 = .ok (.getfield 7, 3) := by decide +kernel
theorem dX12_holds_78 : decode cX12_holds 78 = .ok (.iload_n 1, 1) := by decide +kernel
theorem dX12_holds_79 : decode cX12_holds 79 = .ok (.iconst 2, 1) := by decide +kernel
theorem dX12_holds_80 : decode cX12_holds 80 = .ok (.iadd, 1) := by decide +kernel
theorem dX12_holds_81 : decode cX12_holds 81 = .ok (.iaload, 1) := by decide +kernel
theorem dX12_holds_82 : decode cX12_holds 82 = .ok (.if_icmp .ge 7, 3) := by decide +kernel
theorem dX12_holds_85 : decode cX12_holds 85 = .ok (.iconst 1, 1) := by decide +kernel
theorem dX12_holds_86 : decode cX12_holds 86 = .ok (.goto 57, 3) := by decide +kernel
theorem dX12_holds_89 : decode cX12_holds 89 = .ok (.iconst 0, 1) := by decide +kernel
theorem dX12_holds_90 : decode cX12_holds 90 = .ok (.goto 53, 3) := by decide +kernel
theorem dX12_holds_93 : decode cX12_holds 93 = .ok (.aload_n 0, 1) := by decide +kernel
theorem dX12_holds_94 : decode cX12_holds 94 = .ok (.getfield 7, 3) := by decide +kernel
theorem dX12_holds_97 : decode cX12_holds 97 = .ok (.iload_n 1, 1) := by decide +kernel
theorem dX12_holds_98 : decode cX12_holds 98 = .ok (.iconst 5, 1) := by decide +kernel
theorem dX12_holds_99 : decode cX12_holds 99 = .ok (.iadd, 1) := by decide +kernel
theorem dX12_holds_100 : decode cX12_holds 100 = .ok (.iaload, 1) := by decide +kernel
theorem dX12_holds_101 : decode cX12_holds 101 = .ok (.bipush 62, 2) := by decide +kernel
theorem dX12_holds_103 : decode cX12_holds 103 = .ok (.if_icmp .ne 23, 3) := by decide +kernel
theorem dX12_holds_106 : decode cX12_holds 106 = .ok (.iload_n 3, 1) := by decide +kernel
theorem dX12_holds_107 : decode cX12_holds 107 = .ok (.aload_n 0, 1) := by decide +kernel
theorem dX12_holds_108 : decode cX12_holds 108 = .ok (.getfield 7, 3) := by decide +kernel
theorem dX12_holds_111 : decode cX12_holds 111 = .ok (.iload_n 1, 1) := by decide +kernel
theorem dX12_holds_112 : decode cX12_holds 112 = .ok (.iconst 2, 1) := by decide +kernel
theorem dX12_holds_113 : decode cX12_holds 113 = .ok (.iadd, 1) := by decide +kernel
theorem dX12_holds_114 : decode cX12_holds 114 = .ok (.iaload, 1) := by decide +kernel
theorem dX12_holds_115 : decode cX12_holds 115 = .ok (.if_icmp .le 7, 3) := by decide +kernel
theorem dX12_holds_118 : decode cX12_holds 118 = .ok (.iconst 1, 1) := by decide +kernel
theorem dX12_holds_119 : decode cX12_holds 119 = .ok (.goto 24, 3) := by decide +kernel
theorem dX12_holds_122 : decode cX12_holds 122 = .ok (.iconst 0, 1) := by decide +kernel
theorem dX12_holds_123 : decode cX12_holds 123 = .ok (.goto 20, 3) := by decide +kernel
theorem dX12_holds_126 : decode cX12_holds 126 = .ok (.iload_n 3, 1) := by decide +kernel
theorem dX12_holds_127 : decode cX12_holds 127 = .ok (.aload_n 0, 1) := by decide +kernel
theorem dX12_holds_128 : decode cX12_holds 128 = .ok (.getfield 7, 3) := by decide +kernel
theorem dX12_holds_131 : decode cX12_holds 131 = .ok (.iload_n 1, 1) := by decide +kernel
theorem dX12_holds_132 : decode cX12_holds 132 = .ok (.iconst 2, 1) := by decide +kernel
theorem dX12_holds_133 : decode cX12_holds 133 = .ok (.iadd, 1) := by decide +kernel
theorem dX12_holds_134 : decode cX12_holds 134 = .ok (.iaload, 1) := by decide +kernel
theorem dX12_holds_135 : decode cX12_holds 135 = .ok (.if_icmp .ne 7, 3) := by decide +kernel
theorem dX12_holds_138 : decode cX12_holds 138 = .ok (.iconst 1, 1) := by decide +kernel
theorem dX12_holds_139 : decode cX12_holds 139 = .ok (.goto 4, 3) := by decide +kernel
theorem dX12_holds_142 : decode cX12_holds 142 = .ok (.iconst 0, 1) := by decide +kernel
theorem dX12_holds_143 : decode cX12_holds 143 = .ok (.ireturn, 1) := by decide +kernel
noncomputable def fX12_holds (rf : Nat → Nat → Nat) (a0 : Nat) (x1 : Int32) (μ0 : o_Mem) : Option (Int32 × o_Mem) :=
  o_ck (0 ≤ (x1).toInt ∧ (x1).toInt < 3756) <|
  if ((μ0.1 (rf a0 0) x1.toNatClampNeg) - 2000) = 24 then (
    o_ck (0 ≤ ((x1 + 1)).toInt ∧ ((x1 + 1)).toInt < 3756) <|
    o_bd (fX12_hasCover rf a0 (μ0.1 (rf a0 0) ((x1 + 1)).toNatClampNeg) μ0) fun r1 μ1 =>
    some (r1, μ1))
  else (
    if ((μ0.1 (rf a0 0) x1.toNatClampNeg) - 2000) = 26 then (
      if (μ0.1 (rf a0 0) 8) = 1 then (
        some (1, μ0))
      else (
        some (0, μ0)))
    else (
      o_ck (0 ≤ ((x1 + 5)).toInt ∧ ((x1 + 5)).toInt < 3756) <|
      if (μ0.1 (rf a0 0) ((x1 + 5)).toNatClampNeg) = 60 then (
        o_ck (0 ≤ ((x1 + 2)).toInt ∧ ((x1 + 2)).toInt < 3756) <|
        if (μ0.1 (rf a0 0) ((x1 + 2)).toNatClampNeg) ≤ (μ0.1 (rf a0 0) 4) then (
          some (0, μ0))
        else (
          some (1, μ0)))
      else (
        o_ck (0 ≤ ((x1 + 5)).toInt ∧ ((x1 + 5)).toInt < 3756) <|
        if (μ0.1 (rf a0 0) ((x1 + 5)).toNatClampNeg) = 62 then (
          o_ck (0 ≤ ((x1 + 2)).toInt ∧ ((x1 + 2)).toInt < 3756) <|
          if (μ0.1 (rf a0 0) 4) ≤ (μ0.1 (rf a0 0) ((x1 + 2)).toNatClampNeg) then (
            some (0, μ0))
          else (
            some (1, μ0)))
        else (
          o_ck (0 ≤ ((x1 + 2)).toInt ∧ ((x1 + 2)).toInt < 3756) <|
          if (μ0.1 (rf a0 0) 4) = (μ0.1 (rf a0 0) ((x1 + 2)).toNatClampNeg) then (
            some (1, μ0))
          else (
            some (0, μ0))))))
set_option maxRecDepth 20000 in
theorem dnX12_holds {X : o_Cx} (hX : o_ok X) {d : Nat} {a0 : Nat} {x1 : Int32} {μ0 : o_Mem} {q : Int32 → o_Mem → Prop} (h0 : o_is X a0 (.inl 12)) (h : o_Post (fX12_holds (o_rf X) a0 x1 μ0) q) : o_Ev X (d + 2) mX12_holds 0 [some (.ref (o_ad X a0)), some (.int x1), none, none] [] μ0 (o_QZ q) := by
  unfold fX12_holds at h
  refine s_aload_n (i := 0) dX12_holds_0 rfl rfl ?_
  refine s_getR hX h0 flX12_7 rfl dX12_holds_1 (fun (g1 : o_is X (o_rf X a0 0) (.inr (0, 3756))) => ?_)
  refine s_iload_n (i := 1) dX12_holds_4 rfl rfl ?_
  have hc := o_ck_c h
  have h := o_ck_k h
  refine s_ialdK g1 hc rfl dX12_holds_5 ?_
  refine s_sipush dX12_holds_6 kS_2000 ?_
  refine s_isub dX12_holds_9 ?_
  refine s_istore_n (i := 2) dX12_holds_10 rfl (Nat.le_of_ble_eq_true rfl) rfl ?_
  refine s_iload_n (i := 2) dX12_holds_11 rfl rfl ?_
  refine s_bipush dX12_holds_12 kB_24 ?_
  refine s_icmp_ne (tgt := 30) dX12_holds_14 rfl (fun c1 => ?_) (fun c1 => ?_)
  · have h := o_if_f c1 h
    refine s_iload_n (i := 2) dX12_holds_30 rfl rfl ?_
    refine s_bipush dX12_holds_31 kB_26 ?_
    refine s_icmp_ne (tgt := 53) dX12_holds_33 rfl (fun c1 => ?_) (fun c1 => ?_)
    · have h := o_if_f c1 h
      refine s_aload_n (i := 0) dX12_holds_53 rfl rfl ?_
      refine s_getR hX h0 flX12_7 rfl dX12_holds_54 (fun (g2 : o_is X (o_rf X a0 0) (.inr (0, 3756))) => ?_)
      refine s_iconst dX12_holds_57 kI_4 ?_
      refine s_ialdK g2 ⟨by decide, by decide⟩ kN_4 dX12_holds_58 ?_
      refine s_istore_n (i := 3) dX12_holds_59 rfl (Nat.le_of_ble_eq_true rfl) rfl ?_
      refine s_aload_n (i := 0) dX12_holds_60 rfl rfl ?_
      refine s_getR hX h0 flX12_7 rfl dX12_holds_61 (fun (g3 : o_is X (o_rf X a0 0) (.inr (0, 3756))) => ?_)
      refine s_iload_n (i := 1) dX12_holds_64 rfl rfl ?_
      refine s_iconst dX12_holds_65 kI_5 ?_
      refine s_iadd dX12_holds_66 ?_
      have hc := o_ck_c h
      have h := o_ck_k h
      refine s_ialdK g3 hc rfl dX12_holds_67 ?_
      refine s_bipush dX12_holds_68 kB_60 ?_
      refine s_icmp_ne (tgt := 93) dX12_holds_70 rfl (fun c1 => ?_) (fun c1 => ?_)
      · have h := o_if_f c1 h
        refine s_aload_n (i := 0) dX12_holds_93 rfl rfl ?_
        refine s_getR hX h0 flX12_7 rfl dX12_holds_94 (fun (g4 : o_is X (o_rf X a0 0) (.inr (0, 3756))) => ?_)
        refine s_iload_n (i := 1) dX12_holds_97 rfl rfl ?_
        refine s_iconst dX12_holds_98 kI_5 ?_
        refine s_iadd dX12_holds_99 ?_
        have hc := o_ck_c h
        have h := o_ck_k h
        refine s_ialdK g4 hc rfl dX12_holds_100 ?_
        refine s_bipush dX12_holds_101 kB_62 ?_
        refine s_icmp_ne (tgt := 126) dX12_holds_103 rfl (fun c1 => ?_) (fun c1 => ?_)
        · have h := o_if_f c1 h
          refine s_iload_n (i := 3) dX12_holds_126 rfl rfl ?_
          refine s_aload_n (i := 0) dX12_holds_127 rfl rfl ?_
          refine s_getR hX h0 flX12_7 rfl dX12_holds_128 (fun (g5 : o_is X (o_rf X a0 0) (.inr (0, 3756))) => ?_)
          refine s_iload_n (i := 1) dX12_holds_131 rfl rfl ?_
          refine s_iconst dX12_holds_132 kI_2 ?_
          refine s_iadd dX12_holds_133 ?_
          have hc := o_ck_c h
          have h := o_ck_k h
          refine s_ialdK g5 hc rfl dX12_holds_134 ?_
          refine s_icmp_ne (tgt := 142) dX12_holds_135 rfl (fun c1 => ?_) (fun c1 => ?_)
          · have h := o_if_f c1 h
            refine s_iconst dX12_holds_142 kI_0 ?_
            exact s_zreturn rfl (Or.inl rfl) dX12_holds_143 ⟨_, rfl, (Or.inl rfl), o_ret h⟩
          · have h := o_if_t c1 h
            refine s_iconst dX12_holds_138 kI_1 ?_
            refine s_goto (tgt := 143) dX12_holds_139 rfl ?_
            exact s_zreturn rfl (Or.inr rfl) dX12_holds_143 ⟨_, rfl, (Or.inr rfl), o_ret h⟩
        · have h := o_if_t c1 h
          refine s_iload_n (i := 3) dX12_holds_106 rfl rfl ?_
          refine s_aload_n (i := 0) dX12_holds_107 rfl rfl ?_
          refine s_getR hX h0 flX12_7 rfl dX12_holds_108 (fun (g6 : o_is X (o_rf X a0 0) (.inr (0, 3756))) => ?_)
          refine s_iload_n (i := 1) dX12_holds_111 rfl rfl ?_
          refine s_iconst dX12_holds_112 kI_2 ?_
          refine s_iadd dX12_holds_113 ?_
          have hc := o_ck_c h
          have h := o_ck_k h
          refine s_ialdK g6 hc rfl dX12_holds_114 ?_
          refine s_icmp_le (tgt := 122) dX12_holds_115 rfl (fun c1 => ?_) (fun c1 => ?_)
          · have h := o_if_t c1 h
            refine s_iconst dX12_holds_122 kI_0 ?_
            refine s_goto (tgt := 143) dX12_holds_123 rfl ?_
            exact s_zreturn rfl (Or.inl rfl) dX12_holds_143 ⟨_, rfl, (Or.inl rfl), o_ret h⟩
          · have h := o_if_f c1 h
            refine s_iconst dX12_holds_118 kI_1 ?_
            refine s_goto (tgt := 143) dX12_holds_119 rfl ?_
            exact s_zreturn rfl (Or.inr rfl) dX12_holds_143 ⟨_, rfl, (Or.inr rfl), o_ret h⟩
      · have h := o_if_t c1 h
        refine s_iload_n (i := 3) dX12_holds_73 rfl rfl ?_
        refine s_aload_n (i := 0) dX12_holds_74 rfl rfl ?_
        refine s_getR hX h0 flX12_7 rfl dX12_holds_75 (fun (g7 : o_is X (o_rf X a0 0) (.inr (0, 3756))) => ?_)
        refine s_iload_n (i := 1) dX12_holds_78 rfl rfl ?_
        refine s_iconst dX12_holds_79 kI_2 ?_
        refine s_iadd dX12_holds_80 ?_
        have hc := o_ck_c h
        have h := o_ck_k h
        refine s_ialdK g7 hc rfl dX12_holds_81 ?_
        refine s_icmp_ge (tgt := 89) dX12_holds_82 rfl (fun c1 => ?_) (fun c1 => ?_)
        · have h := o_if_t c1 h
          refine s_iconst dX12_holds_89 kI_0 ?_
          refine s_goto (tgt := 143) dX12_holds_90 rfl ?_
          exact s_zreturn rfl (Or.inl rfl) dX12_holds_143 ⟨_, rfl, (Or.inl rfl), o_ret h⟩
        · have h := o_if_f c1 h
          refine s_iconst dX12_holds_85 kI_1 ?_
          refine s_goto (tgt := 143) dX12_holds_86 rfl ?_
          exact s_zreturn rfl (Or.inr rfl) dX12_holds_143 ⟨_, rfl, (Or.inr rfl), o_ret h⟩
    · have h := o_if_t c1 h
      refine s_aload_n (i := 0) dX12_holds_36 rfl rfl ?_
      refine s_getR hX h0 flX12_7 rfl dX12_holds_37 (fun (g8 : o_is X (o_rf X a0 0) (.inr (0, 3756))) => ?_)
      refine s_bipush dX12_holds_40 kB_8 ?_
      refine s_ialdK g8 ⟨by decide, by decide⟩ kN_8 dX12_holds_42 ?_
      refine s_iconst dX12_holds_43 kI_1 ?_
      refine s_icmp_ne (tgt := 51) dX12_holds_44 rfl (fun c1 => ?_) (fun c1 => ?_)
      · have h := o_if_f c1 h
        refine s_iconst dX12_holds_51 kI_0 ?_
        exact s_zreturn rfl (Or.inl rfl) dX12_holds_52 ⟨_, rfl, (Or.inl rfl), o_ret h⟩
      · have h := o_if_t c1 h
        refine s_iconst dX12_holds_47 kI_1 ?_
        refine s_goto (tgt := 52) dX12_holds_48 rfl ?_
        exact s_zreturn rfl (Or.inr rfl) dX12_holds_52 ⟨_, rfl, (Or.inr rfl), o_ret h⟩
  · have h := o_if_t c1 h
    refine s_aload_n (i := 0) dX12_holds_17 rfl rfl ?_
    refine s_aload_n (i := 0) dX12_holds_18 rfl rfl ?_
    refine s_getR hX h0 flX12_7 rfl dX12_holds_19 (fun (g9 : o_is X (o_rf X a0 0) (.inr (0, 3756))) => ?_)
    refine s_iload_n (i := 1) dX12_holds_22 rfl rfl ?_
    refine s_iconst dX12_holds_23 kI_1 ?_
    refine s_iadd dX12_holds_24 ?_
    have hc := o_ck_c h
    have h := o_ck_k h
    refine s_ialdK g9 hc rfl dX12_holds_25 ?_
    refine s_callVz (C := mX12_hasCover) (As := [.int (μ0.1 (o_rf X a0 0) ((x1 + 1)).toNatClampNeg)]) (rest := []) (L0 := [some (.ref (o_ad X a0)), some (.int (μ0.1 (o_rf X a0 0) ((x1 + 1)).toNatClampNeg)), none]) hX h0 clX12_465 dX12_holds_26 rfl rfl (Nat.le_of_ble_eq_true rfl) (Nat.le_of_ble_eq_true rfl) (dnX12_hasCover hX h0 (o_bdp h)) (fun r1 μ1 zr1 h => ?_)
    exact s_zreturn rfl zr1 dX12_holds_29 ⟨_, rfl, zr1, o_ret h⟩
theorem dX12_behindEnds_0 : decode cX12_behindEnds 0 = .ok (.iload_n 1, 1) := by decide +kernel
theorem dX12_behindEnds_1 : decode cX12_behindEnds 1 = .ok (.istore_n 2, 1) := by decide +kernel
theorem dX12_behindEnds_2 : decode cX12_behindEnds 2 = .ok (.iload_n 2, 1) := by decide +kernel
theorem dX12_behindEnds_3 : decode cX12_behindEnds 3 = .ok (.aload_n 0, 1) := by decide +kernel
theorem dX12_behindEnds_4 : decode cX12_behindEnds 4 = .ok (.getfield 7, 3) := by decide +kernel
theorem dX12_behindEnds_7 : decode cX12_behindEnds 7 = .ok (.bipush 12, 2) := by decide +kernel
theorem dX12_behindEnds_9 : decode cX12_behindEnds 9 = .ok (.iaload, 1) := by decide +kernel
theorem dX12_behindEnds_10 : decode cX12_behindEnds 10 = .ok (.if_icmp .ge 108, 3) := by decide +kernel
theorem dX12_behindEnds_13 : decode cX12_behindEnds 13 = .ok (.aload_n 0, 1) := by decide +kernel
theorem dX12_behindEnds_14 : decode cX12_behindEnds 14 = .ok (.getfield 7, 3) := by decide +kernel
theorem dX12_behindEnds_17 : decode cX12_behindEnds 17 = .ok (.sipush 259, 3) := by decide +kernel
theorem dX12_behindEnds_20 : decode cX12_behindEnds 20 = .ok (.bipush 6, 2) := by decide +kernel
theorem dX12_behindEnds_22 : decode cX12_behindEnds 22 = .ok (.iload_n 2, 1) := by decide +kernel
theorem dX12_behindEnds_23 : decode cX12_behindEnds 23 = .ok (.imul, 1) := by decide +kernel
theorem dX12_behindEnds_24 : decode cX12_behindEnds 24 = .ok (.iadd, 1) := by decide +kernel
theorem dX12_behindEnds_25 : decode cX12_behindEnds 25 = .ok (.iaload, 1) := by decide +kernel
theorem dX12_behindEnds_26 : decode cX12_behindEnds 26 = .ok (.bipush 22, 2) := by decide +kernel
theorem dX12_behindEnds_28 : decode cX12_behindEnds 28 = .ok (.if_icmp .ne 90, 3) := by decide +kernel
theorem dX12_behindEnds_31 : decode cX12_behindEnds 31 = .ok (.aload_n 0, 1) := by decide +kernel
theorem dX12_behindEnds_32 : decode cX12_behindEnds 32 = .ok (.getfield 7, 3) := by decide +kernel
theorem dX12_behindEnds_35 : decode cX12_behindEnds 35 = .ok (.sipush 259, 3) := by decide +kernel
theorem dX12_behindEnds_38 : decode cX12_behindEnds 38 = .ok (.bipush 6, 2) := by decide +kernel
theorem dX12_behindEnds_40 : decode cX12_behindEnds 40 = .ok (.iload_n 2, 1) := by decide +kernel
theorem dX12_behindEnds_41 : decode cX12_behindEnds 41 = .ok (.imul, 1) := by decide +kernel
theorem dX12_behindEnds_42 : decode cX12_behindEnds 42 = .ok (.iadd, 1) := by decide +kernel
theorem dX12_behindEnds_43 : decode cX12_behindEnds 43 = .ok (.iconst 4, 1) := by decide +kernel
theorem dX12_behindEnds_44 : decode cX12_behindEnds 44 = .ok (.iadd, 1) := by decide +kernel
theorem dX12_behindEnds_45 : decode cX12_behindEnds 45 = .ok (.iaload, 1) := by decide +kernel
theorem dX12_behindEnds_46 : decode cX12_behindEnds 46 = .ok (.istore_n 3, 1) := by decide +kernel
theorem dX12_behindEnds_47 : decode cX12_behindEnds 47 = .ok (.aload_n 0, 1) := by decide +kernel
theorem dX12_behindEnds_48 : decode cX12_behindEnds 48 = .ok (.getfield 7, 3) := by decide +kernel
theorem dX12_behindEnds_51 : decode cX12_behindEnds 51 = .ok (.sipush 259, 3) := by decide +kernel
theorem dX12_behindEnds_54 : decode cX12_behindEnds 54 = .ok (.bipush 6, 2) := by decide +kernel
theorem dX12_behindEnds_56 : decode cX12_behindEnds 56 = .ok (.iload_n 3, 1) := by decide +kernel
theorem dX12_behindEnds_57 : decode cX12_behindEnds 57 = .ok (.imul, 1) := by decide +kernel
theorem dX12_behindEnds_58 : decode cX12_behindEnds 58 = .ok (.iadd, 1) := by decide +kernel
theorem dX12_behindEnds_59 : decode cX12_behindEnds 59 = .ok (.iaload, 1) := by decide +kernel
theorem dX12_behindEnds_60 : decode cX12_behindEnds 60 = .ok (.bipush 21, 2) := by decide +kernel
theorem dX12_behindEnds_62 : decode cX12_behindEnds 62 = .ok (.if_icmp .ne 16, 3) := by decide +kernel
theorem dX12_behindEnds_65 : decode cX12_behindEnds 65 = .ok (.aload_n 0, 1) := by decide +kernel
theorem dX12_behindEnds_66 : decode cX12_behindEnds 66 = .ok (.getfield 68, 3) := by decide +kernel
theorem dX12_behindEnds_69 : decode cX12_behindEnds 69 = .ok (.iload_n 3, 1) := by decide +kernel
theorem dX12_behindEnds_70 : decode cX12_behindEnds 70 = .ok (.iaload, 1) := by decide +kernel
theorem dX12_behindEnds_71 : decode cX12_behindEnds 71 = .ok (.ifCond .le 7, 3) := by decide +kernel
theorem dX12_behindEnds_74 : decode cX12_behindEnds 74 = .ok (.iconst 1, 1) := by decide +kernel
theorem dX12_behindEnds_75 : decode cX12_behindEnds 75 = .ok (.goto 4, 3) := by decide +kernel
theorem dX12_behindEnds_78 : decode cX12_behindEnds 78 = .ok (.iconst 0, 1) := by decide +kernel
theorem dX12_behindEnds_79 : decode cX12_behindEnds 79 = .ok (.istore 4, 2) := by decide +kernel
theorem dX12_behindEnds_81 : decode cX12_behindEnds 81 = .ok (.aload_n 0, 1) := by decide +kernel
theorem dX12_behindEnds_82 : decode cX12_behindEnds 82 = .ok (.getfield 68, 3) := by decide +kernel
theorem dX12_behindEnds_85 : decode cX12_behindEnds 85 = .ok (.iload_n 3, 1) := by decide +kernel
theorem dX12_behindEnds_86 : decode cX12_behindEnds 86 = .ok (.dup2, 1) := by decide +kernel
theorem dX12_behindEnds_87 : decode cX12_behindEnds 87 = .ok (.iaload, 1) := by decide +kernel
theorem dX12_behindEnds_88 : decode cX12_behindEnds 88 = .ok (.iload 4, 2) := by decide +kernel
theorem dX12_behindEnds_90 : decode cX12_behindEnds 90 = .ok (.ifCond .eq 7, 3) := by decide +kernel
theorem dX12_behindEnds_93 : decode cX12_behindEnds 93 = .ok (.iconst 1, 1) := by decide +kernel
theorem dX12_behindEnds_94 : decode cX12_behindEnds 94 = .ok (.goto 4, 3) := by decide +kernel
theorem dX12_behindEnds_97 : decode cX12_behindEnds 97 = .ok (.iconst 0, 1) := by decide +kernel
theorem dX12_behindEnds_98 : decode cX12_behindEnds 98 = .ok (.isub, 1) := by decide +kernel
theorem dX12_behindEnds_99 : decode cX12_behindEnds 99 = .ok (.iastore, 1) := by decide +kernel
theorem dX12_behindEnds_100 : decode cX12_behindEnds 100 = .ok (.iload 4, 2) := by decide +kernel
theorem dX12_behindEnds_102 : decode cX12_behindEnds 102 = .ok (.ifCond .eq 9, 3) := by decide +kernel
theorem dX12_behindEnds_105 : decode cX12_behindEnds 105 = .ok (.iload_n 3, 1) := by decide +kernel
theorem dX12_behindEnds_106 : decode cX12_behindEnds 106 = .ok (.iconst 1, 1) := by decide +kernel
theorem dX12_behindEnds_107 : decode cX12_behindEnds 107 = .ok (.iadd, 1) := by decide +kernel
theorem dX12_behindEnds_108 : decode cX12_behindEnds 108 = .ok (.goto 6, 3) := by decide +kernel
theorem dX12_behindEnds_111 : decode cX12_behindEnds 111 = .ok (.iload_n 2, 1) := by decide +kernel
theorem dX12_behindEnds_112 : decode cX12_behindEnds 112 = .ok (.iconst 1, 1) := by decide +kernel
theorem dX12_behindEnds_113 : decode cX12_behindEnds 113 = .ok (.iadd, 1) := by decide +kernel
theorem dX12_behindEnds_114 : decode cX12_behindEnds 114 = .ok (.istore_n 2, 1) := by decide +kernel
theorem dX12_behindEnds_115 : decode cX12_behindEnds 115 = .ok (.goto (-113), 3) := by decide +kernel
theorem dX12_behindEnds_118 : decode cX12_behindEnds 118 = .ok (.iload_n 2, 1) := by decide +kernel
theorem dX12_behindEnds_119 : decode cX12_behindEnds 119 = .ok (.ireturn, 1) := by decide +kernel
noncomputable def fX12_behindEnds_j98 (rf : Nat → Nat → Nat) (a0 : Nat) (x2 : Int32) (x3 : Int32) (x4 : Int32) (b0 : Nat) (y1 : Int32) (y2 : Int32) (y3 : Int32) (μ0 : o_Mem) : Option ((Nat × (Int32)) × o_Mem) :=
  o_ck (0 ≤ (y1).toInt ∧ (y1).toInt < 80) <|
  o_seq (o_wI μ0 b0 y1.toNatClampNeg (y2 - y3)) fun μ1 =>
  if x4 = 0 then (
    some ((2, (x2 + 1)), μ1))
  else (
    some ((2, (x3 + 1)), μ1))
noncomputable def fX12_behindEnds_j79 (rf : Nat → Nat → Nat) (a0 : Nat) (x2 : Int32) (x3 : Int32) (y0 : Int32) (μ0 : o_Mem) : Option ((Nat × (Int32)) × o_Mem) :=
  o_ck (0 ≤ (x3).toInt ∧ (x3).toInt < 80) <|
  if y0 = 0 then (
    fX12_behindEnds_j98 rf a0 x2 x3 y0 (rf a0 34) x3 (μ0.1 (rf a0 34) x3.toNatClampNeg) 0 μ0)
  else (
    fX12_behindEnds_j98 rf a0 x2 x3 y0 (rf a0 34) x3 (μ0.1 (rf a0 34) x3.toNatClampNeg) 1 μ0)
noncomputable def fX12_behindEnds_j78 (rf : Nat → Nat → Nat) (a0 : Nat) (x2 : Int32) (x3 : Int32) (μ0 : o_Mem) : Option ((Nat × (Int32)) × o_Mem) :=
  fX12_behindEnds_j79 rf a0 x2 x3 0 μ0
noncomputable def fX12_behindEnds_s2 (rf : Nat → Nat → Nat) (a0 : Nat) (τ2 : Int32) (μ0 : o_Mem) : Option ((Nat × (Int32)) × o_Mem) :=
  if (μ0.1 (rf a0 0) 12) ≤ τ2 then (
    some ((118, τ2), μ0))
  else (
    o_ck (0 ≤ ((259 + (6 * τ2))).toInt ∧ ((259 + (6 * τ2))).toInt < 3756) <|
    if (μ0.1 (rf a0 0) ((259 + (6 * τ2))).toNatClampNeg) = 22 then (
      o_ck (0 ≤ (((259 + (6 * τ2)) + 4)).toInt ∧ (((259 + (6 * τ2)) + 4)).toInt < 3756) <|
      o_ck (0 ≤ ((259 + (6 * (μ0.1 (rf a0 0) (((259 + (6 * τ2)) + 4)).toNatClampNeg)))).toInt ∧ ((259 + (6 * (μ0.1 (rf a0 0) (((259 + (6 * τ2)) + 4)).toNatClampNeg)))).toInt < 3756) <|
      if (μ0.1 (rf a0 0) ((259 + (6 * (μ0.1 (rf a0 0) (((259 + (6 * τ2)) + 4)).toNatClampNeg)))).toNatClampNeg) = 21 then (
        o_ck (0 ≤ ((μ0.1 (rf a0 0) (((259 + (6 * τ2)) + 4)).toNatClampNeg)).toInt ∧ ((μ0.1 (rf a0 0) (((259 + (6 * τ2)) + 4)).toNatClampNeg)).toInt < 80) <|
        if (μ0.1 (rf a0 34) ((μ0.1 (rf a0 0) (((259 + (6 * τ2)) + 4)).toNatClampNeg)).toNatClampNeg) ≤ 0 then (
          fX12_behindEnds_j78 rf a0 τ2 (μ0.1 (rf a0 0) (((259 + (6 * τ2)) + 4)).toNatClampNeg) μ0)
        else (
          fX12_behindEnds_j79 rf a0 τ2 (μ0.1 (rf a0 0) (((259 + (6 * τ2)) + 4)).toNatClampNeg) 1 μ0))
      else (
        fX12_behindEnds_j78 rf a0 τ2 (μ0.1 (rf a0 0) (((259 + (6 * τ2)) + 4)).toNatClampNeg) μ0))
    else (
      some ((118, τ2), μ0)))
noncomputable def fX12_behindEnds (rf : Nat → Nat → Nat) (a0 : Nat) (x1 : Int32) (μ0 : o_Mem) : Option (Int32 × o_Mem) :=
  o_bd (o_lp 2 (fX12_behindEnds_s2 rf a0) o_fuel (x1 : Int32) μ0) fun ex1 μ1 =>
  if ex1.1 = 118 then (
    some (ex1.2, μ1))
  else
    none
set_option maxRecDepth 20000 in
theorem dnX12_behindEnds_j98 {X : o_Cx} (hX : o_ok X) {d : Nat} {a0 : Nat} {x2 : Int32} {x3 : Int32} {x4 : Int32} {b0 : Nat} {y1 : Int32} {y2 : Int32} {y3 : Int32} {μ0 : o_Mem} {K : (Nat × (Int32)) → o_Mem → Prop} {Q : Option Value → o_Mem → Prop} (h0 : o_is X a0 (.inl 12)) (hb0 : o_is X b0 (.inr (0, 80))) (h : o_Post (fX12_behindEnds_j98 (o_rf X) a0 x2 x3 x4 b0 y1 y2 y3 μ0) K) (kh : ∀ (τ2 : Int32) (μ : o_Mem), K (2, τ2) μ → o_Ev X (d + 0) mX12_behindEnds 2 [some (.ref (o_ad X a0)), none, some (.int τ2), none, none] [] μ Q) (k118 : ∀ (τ2 : Int32) (μ : o_Mem), K (118, τ2) μ → o_Ev X (d + 0) mX12_behindEnds 118 [none, none, some (.int τ2), none, none] [] μ Q) : o_Ev X (d + 0) mX12_behindEnds 98 [some (.ref (o_ad X a0)), none, some (.int x2), some (.int x3), some (.int x4)] [.int y3, .int y2, .int y1, .ref (o_ad X b0)] μ0 Q := by
  unfold fX12_behindEnds_j98 at h
  refine s_isub dX12_behindEnds_98 ?_
  have hc := o_ck_c h
  have h := o_ck_k h
  refine s_iastK hX hb0 hc rfl dX12_behindEnds_99 (o_gen h (fun μ1 h => ?_))
  refine s_iload dX12_behindEnds_100 rfl ?_
  refine s_if_eq (tgt := 111) dX12_behindEnds_102 rfl (fun c1 => ?_) (fun c1 => ?_)
  · have h := o_if_t c1 h
    refine s_iload_n (i := 2) dX12_behindEnds_111 rfl rfl ?_
    refine s_iconst dX12_behindEnds_112 kI_1 ?_
    refine s_iadd dX12_behindEnds_113 ?_
    refine s_istore_n (i := 2) dX12_behindEnds_114 rfl (Nat.le_of_ble_eq_true rfl) rfl ?_
    refine s_goto (tgt := 2) dX12_behindEnds_115 rfl ?_
    refine s_mask [true, false, true, false, false] (L' := [some (.ref (o_ad X a0)), none, some (.int (x2 + 1)), none, none]) rfl ?_
    exact kh (x2 + 1) _ (o_ret h)
  · have h := o_if_f c1 h
    refine s_iload_n (i := 3) dX12_behindEnds_105 rfl rfl ?_
    refine s_iconst dX12_behindEnds_106 kI_1 ?_
    refine s_iadd dX12_behindEnds_107 ?_
    refine s_goto (tgt := 114) dX12_behindEnds_108 rfl ?_
    refine s_istore_n (i := 2) dX12_behindEnds_114 rfl (Nat.le_of_ble_eq_true rfl) rfl ?_
    refine s_goto (tgt := 2) dX12_behindEnds_115 rfl ?_
    refine s_mask [true, false, true, false, false] (L' := [some (.ref (o_ad X a0)), none, some (.int (x3 + 1)), none, none]) rfl ?_
    exact kh (x3 + 1) _ (o_ret h)
set_option maxRecDepth 20000 in
theorem dnX12_behindEnds_j79 {X : o_Cx} (hX : o_ok X) {d : Nat} {a0 : Nat} {x2 : Int32} {x3 : Int32} {y0 : Int32} {μ0 : o_Mem} {K : (Nat × (Int32)) → o_Mem → Prop} {Q : Option Value → o_Mem → Prop} (h0 : o_is X a0 (.inl 12)) (h : o_Post (fX12_behindEnds_j79 (o_rf X) a0 x2 x3 y0 μ0) K) (kh : ∀ (τ2 : Int32) (μ : o_Mem), K (2, τ2) μ → o_Ev X (d + 0) mX12_behindEnds 2 [some (.ref (o_ad X a0)), none, some (.int τ2), none, none] [] μ Q) (k118 : ∀ (τ2 : Int32) (μ : o_Mem), K (118, τ2) μ → o_Ev X (d + 0) mX12_behindEnds 118 [none, none, some (.int τ2), none, none] [] μ Q) : o_Ev X (d + 0) mX12_behindEnds 79 [some (.ref (o_ad X a0)), none, some (.int x2), some (.int x3), none] [.int y0] μ0 Q := by
  unfold fX12_behindEnds_j79 at h
  refine s_istore dX12_behindEnds_79 (Nat.le_of_ble_eq_true rfl) rfl ?_
  refine s_aload_n (i := 0) dX12_behindEnds_81 rfl rfl ?_
  refine s_getR hX h0 flX12_68 rfl dX12_behindEnds_82 (fun (g1 : o_is X (o_rf X a0 34) (.inr (0, 80))) => ?_)
  refine s_iload_n (i := 3) dX12_behindEnds_85 rfl rfl ?_
  refine s_dup2 dX12_behindEnds_86 rfl rfl ?_
  have hc := o_ck_c h
  have h := o_ck_k h
  refine s_ialdK g1 hc rfl dX12_behindEnds_87 ?_
  refine s_iload dX12_behindEnds_88 rfl ?_
  refine s_if_eq (tgt := 97) dX12_behindEnds_90 rfl (fun c1 => ?_) (fun c1 => ?_)
  · have h := o_if_t c1 h
    refine s_iconst dX12_behindEnds_97 kI_0 ?_
    refine s_mask [true, false, true, true, true] (L' := [some (.ref (o_ad X a0)), none, some (.int x2), some (.int x3), some (.int y0)]) rfl ?_
    exact dnX12_behindEnds_j98 hX h0 g1 h kh k118
  · have h := o_if_f c1 h
    refine s_iconst dX12_behindEnds_93 kI_1 ?_
    refine s_goto (tgt := 98) dX12_behindEnds_94 rfl ?_
    refine s_mask [true, false, true, true, true] (L' := [some (.ref (o_ad X a0)), none, some (.int x2), some (.int x3), some (.int y0)]) rfl ?_
    exact dnX12_behindEnds_j98 hX h0 g1 h kh k118
set_option maxRecDepth 20000 in
theorem dnX12_behindEnds_j78 {X : o_Cx} (hX : o_ok X) {d : Nat} {a0 : Nat} {x2 : Int32} {x3 : Int32} {μ0 : o_Mem} {K : (Nat × (Int32)) → o_Mem → Prop} {Q : Option Value → o_Mem → Prop} (h0 : o_is X a0 (.inl 12)) (h : o_Post (fX12_behindEnds_j78 (o_rf X) a0 x2 x3 μ0) K) (kh : ∀ (τ2 : Int32) (μ : o_Mem), K (2, τ2) μ → o_Ev X (d + 0) mX12_behindEnds 2 [some (.ref (o_ad X a0)), none, some (.int τ2), none, none] [] μ Q) (k118 : ∀ (τ2 : Int32) (μ : o_Mem), K (118, τ2) μ → o_Ev X (d + 0) mX12_behindEnds 118 [none, none, some (.int τ2), none, none] [] μ Q) : o_Ev X (d + 0) mX12_behindEnds 78 [some (.ref (o_ad X a0)), none, some (.int x2), some (.int x3), none] [] μ0 Q := by
  unfold fX12_behindEnds_j78 at h
  refine s_iconst dX12_behindEnds_78 kI_0 ?_
  refine s_mask [true, false, true, true, false] (L' := [some (.ref (o_ad X a0)), none, some (.int x2), some (.int x3), none]) rfl ?_
  exact dnX12_behindEnds_j79 hX h0 h kh k118
set_option maxRecDepth 20000 in
theorem dnX12_behindEnds_s2 {X : o_Cx} (hX : o_ok X) {d : Nat} {a0 : Nat} {τ2 : Int32} {μ0 : o_Mem} {K : (Nat × (Int32)) → o_Mem → Prop} {Q : Option Value → o_Mem → Prop} (h0 : o_is X a0 (.inl 12)) (h : o_Post (fX12_behindEnds_s2 (o_rf X) a0 τ2 μ0) K) (kh : ∀ (τ2 : Int32) (μ : o_Mem), K (2, τ2) μ → o_Ev X (d + 0) mX12_behindEnds 2 [some (.ref (o_ad X a0)), none, some (.int τ2), none, none] [] μ Q) (k118 : ∀ (τ2 : Int32) (μ : o_Mem), K (118, τ2) μ → o_Ev X (d + 0) mX12_behindEnds 118 [none, none, some (.int τ2), none, none] [] μ Q) : o_Ev X (d + 0) mX12_behindEnds 2 [some (.ref (o_ad X a0)), none, some (.int τ2), none, none] [] μ0 Q := by
  unfold fX12_behindEnds_s2 at h
  refine s_iload_n (i := 2) dX12_behindEnds_2 rfl rfl ?_
  refine s_aload_n (i := 0) dX12_behindEnds_3 rfl rfl ?_
  refine s_getR hX h0 flX12_7 rfl dX12_behindEnds_4 (fun (g1 : o_is X (o_rf X a0 0) (.inr (0, 3756))) => ?_)
  refine s_bipush dX12_behindEnds_7 kB_12 ?_
  refine s_ialdK g1 ⟨by decide, by decide⟩ kN_12 dX12_behindEnds_9 ?_
  refine s_icmp_ge (tgt := 118) dX12_behindEnds_10 rfl (fun c1 => ?_) (fun c1 => ?_)
  · have h := o_if_t c1 h
    refine s_mask [false, false, true, false, false] (L' := [none, none, some (.int τ2), none, none]) rfl ?_
    exact k118 τ2 _ (o_ret h)
  · have h := o_if_f c1 h
    refine s_aload_n (i := 0) dX12_behindEnds_13 rfl rfl ?_
    refine s_getR hX h0 flX12_7 rfl dX12_behindEnds_14 (fun (g2 : o_is X (o_rf X a0 0) (.inr (0, 3756))) => ?_)
    refine s_sipush dX12_behindEnds_17 kS_259 ?_
    refine s_bipush dX12_behindEnds_20 kB_6 ?_
    refine s_iload_n (i := 2) dX12_behindEnds_22 rfl rfl ?_
    refine s_imul dX12_behindEnds_23 ?_
    refine s_iadd dX12_behindEnds_24 ?_
    have hc := o_ck_c h
    have h := o_ck_k h
    refine s_ialdK g2 hc rfl dX12_behindEnds_25 ?_
    refine s_bipush dX12_behindEnds_26 kB_22 ?_
    refine s_icmp_ne (tgt := 118) dX12_behindEnds_28 rfl (fun c1 => ?_) (fun c1 => ?_)
    · have h := o_if_f c1 h
      refine s_mask [false, false, true, false, false] (L' := [none, none, some (.int τ2), none, none]) rfl ?_
      exact k118 τ2 _ (o_ret h)
    · have h := o_if_t c1 h
      refine s_aload_n (i := 0) dX12_behindEnds_31 rfl rfl ?_
      refine s_getR hX h0 flX12_7 rfl dX12_behindEnds_32 (fun (g3 : o_is X (o_rf X a0 0) (.inr (0, 3756))) => ?_)
      refine s_sipush dX12_behindEnds_35 kS_259 ?_
      refine s_bipush dX12_behindEnds_38 kB_6 ?_
      refine s_iload_n (i := 2) dX12_behindEnds_40 rfl rfl ?_
      refine s_imul dX12_behindEnds_41 ?_
      refine s_iadd dX12_behindEnds_42 ?_
      refine s_iconst dX12_behindEnds_43 kI_4 ?_
      refine s_iadd dX12_behindEnds_44 ?_
      have hc := o_ck_c h
      have h := o_ck_k h
      refine s_ialdK g3 hc rfl dX12_behindEnds_45 ?_
      refine s_istore_n (i := 3) dX12_behindEnds_46 rfl (Nat.le_of_ble_eq_true rfl) rfl ?_
      refine s_aload_n (i := 0) dX12_behindEnds_47 rfl rfl ?_
      refine s_getR hX h0 flX12_7 rfl dX12_behindEnds_48 (fun (g4 : o_is X (o_rf X a0 0) (.inr (0, 3756))) => ?_)
      refine s_sipush dX12_behindEnds_51 kS_259 ?_
      refine s_bipush dX12_behindEnds_54 kB_6 ?_
      refine s_iload_n (i := 3) dX12_behindEnds_56 rfl rfl ?_
      refine s_imul dX12_behindEnds_57 ?_
      refine s_iadd dX12_behindEnds_58 ?_
      have hc := o_ck_c h
      have h := o_ck_k h
      refine s_ialdK g4 hc rfl dX12_behindEnds_59 ?_
      refine s_bipush dX12_behindEnds_60 kB_21 ?_
      refine s_icmp_ne (tgt := 78) dX12_behindEnds_62 rfl (fun c1 => ?_) (fun c1 => ?_)
      · have h := o_if_f c1 h
        refine s_mask [true, false, true, true, false] (L' := [some (.ref (o_ad X a0)), none, some (.int τ2), some (.int (μ0.1 (o_rf X a0 0) (((259 + (6 * τ2)) + 4)).toNatClampNeg)), none]) rfl ?_
        exact dnX12_behindEnds_j78 hX h0 h kh k118
      · have h := o_if_t c1 h
        refine s_aload_n (i := 0) dX12_behindEnds_65 rfl rfl ?_
        refine s_getR hX h0 flX12_68 rfl dX12_behindEnds_66 (fun (g5 : o_is X (o_rf X a0 34) (.inr (0, 80))) => ?_)
        refine s_iload_n (i := 3) dX12_behindEnds_69 rfl rfl ?_
        have hc := o_ck_c h
        have h := o_ck_k h
        refine s_ialdK g5 hc rfl dX12_behindEnds_70 ?_
        refine s_if_le (tgt := 78) dX12_behindEnds_71 rfl (fun c1 => ?_) (fun c1 => ?_)
        · have h := o_if_t c1 h
          refine s_mask [true, false, true, true, false] (L' := [some (.ref (o_ad X a0)), none, some (.int τ2), some (.int (μ0.1 (o_rf X a0 0) (((259 + (6 * τ2)) + 4)).toNatClampNeg)), none]) rfl ?_
          exact dnX12_behindEnds_j78 hX h0 h kh k118
        · have h := o_if_f c1 h
          refine s_iconst dX12_behindEnds_74 kI_1 ?_
          refine s_goto (tgt := 79) dX12_behindEnds_75 rfl ?_
          refine s_mask [true, false, true, true, false] (L' := [some (.ref (o_ad X a0)), none, some (.int τ2), some (.int (μ0.1 (o_rf X a0 0) (((259 + (6 * τ2)) + 4)).toNatClampNeg)), none]) rfl ?_
          exact dnX12_behindEnds_j79 hX h0 h kh k118
set_option maxRecDepth 20000 in
theorem dnX12_behindEnds {X : o_Cx} (hX : o_ok X) {d : Nat} {a0 : Nat} {x1 : Int32} {μ0 : o_Mem} {q : Int32 → o_Mem → Prop} (h0 : o_is X a0 (.inl 12)) (h : o_Post (fX12_behindEnds (o_rf X) a0 x1 μ0) q) : o_Ev X (d + 0) mX12_behindEnds 0 [some (.ref (o_ad X a0)), some (.int x1), none, none, none] [] μ0 (o_QI q) := by
  unfold fX12_behindEnds at h
  refine s_iload_n (i := 1) dX12_behindEnds_0 rfl rfl ?_
  refine s_istore_n (i := 2) dX12_behindEnds_1 rfl (Nat.le_of_ble_eq_true rfl) rfl ?_
  refine s_mask [true, false, true, false, false] (L' := [some (.ref (o_ad X a0)), none, some (.int x1), none, none]) rfl ?_
  refine o_lp_ev (fun τ2 => [some (.ref (o_ad X a0)), none, some (.int τ2), none, none]) (fun τ2 μ _K h kv ke2 => dnX12_behindEnds_s2 hX h0 h kv (fun τ2 μ1 h => ?_)) o_fuel x1 μ0 (o_bdp h)
  · have h := o_if_t rfl (ke2 (118, τ2) μ1 (o_ne rfl) h)
    refine s_iload_n (i := 2) dX12_behindEnds_118 rfl rfl ?_
    exact s_ireturn rfl dX12_behindEnds_119 ⟨_, rfl, o_ret h⟩
theorem dX12_lives_0 : decode cX12_lives 0 = .ok (.aload_n 0, 1) := by decide +kernel
theorem dX12_lives_1 : decode cX12_lives 1 = .ok (.iload_n 1, 1) := by decide +kernel
theorem dX12_lives_2 : decode cX12_lives 2 = .ok (.putfield 449, 3) := by decide +kernel
theorem dX12_lives_5 : decode cX12_lives 5 = .ok (.aload_n 0, 1) := by decide +kernel
theorem dX12_lives_6 : decode cX12_lives 6 = .ok (.iconst 0, 1) := by decide +kernel
theorem dX12_lives_7 : decode cX12_lives 7 = .ok (.putfield 468, 3) := by decide +kernel
theorem dX12_lives_10 : decode cX12_lives 10 = .ok (.iconst 0, 1) := by decide +kernel
theorem dX12_lives_11 : decode cX12_lives 11 = .ok (.istore_n 2, 1) := by decide +kernel
theorem dX12_lives_12 : decode cX12_lives 12 = .ok (.iload_n 2, 1) := by decide +kernel
theorem dX12_lives_13 : decode cX12_lives 13 = .ok (.iconst 5, 1) := by decide +kernel
theorem dX12_lives_14 : decode cX12_lives 14 = .ok (.if_icmp .ge 16, 3) := by decide +kernel
theorem dX12_lives_17 : decode cX12_lives 17 = .ok (.aload_n 0, 1) := by decide +kernel
theorem dX12_lives_18 : decode cX12_lives 18 = .ok (.getfield 71, 3) := by decide +kernel
theorem dX12_lives_21 : decode cX12_lives 21 = .ok (.iload_n 2, 1) := by decide +kernel
theorem dX12_lives_22 : decode cX12_lives 22 = .ok (.iconst 0, 1) := by decide +kernel
theorem dX12_lives_23 : decode cX12_lives 23 = .ok (.iastore, 1) := by decide +kernel
theorem dX12_lives_24 : decode cX12_lives 24 = .ok (.iinc 2 1, 3) := by decide +kernel
theorem dX12_lives_27 : decode cX12_lives 27 = .ok (.goto (-15), 3) := by decide +kernel
theorem dX12_lives_30 : decode cX12_lives 30 = .ok (.iconst 0, 1) := by decide +kernel
theorem dX12_lives_31 : decode cX12_lives 31 = .ok (.istore_n 2, 1) := by decide +kernel
theorem dX12_lives_32 : decode cX12_lives 32 = .ok (.iload_n 2, 1) := by decide +kernel
theorem dX12_lives_33 : decode cX12_lives 33 = .ok (.aload_n 0, 1) := by decide +kernel
theorem dX12_lives_34 : decode cX12_lives 34 = .ok (.getfield 7, 3) := by decide +kernel
theorem dX12_lives_37 : decode cX12_lives 37 = .ok (.bipush 12, 2) := by decide +kernel
theorem dX12_lives_39 : decode cX12_lives 39 = .ok (.iaload, 1) := by decide +kernel
theorem dX12_lives_40 : decode cX12_lives 40 = .ok (.if_icmp .ge 145, 3) := by decide +kernel
theorem dX12_lives_43 : decode cX12_lives 43 = .ok (.aload_n 0, 1) := by decide +kernel
theorem dX12_lives_44 : decode cX12_lives 44 = .ok (.getfield 468, 3) := by decide +kernel
theorem dX12_lives_47 : decode cX12_lives 47 = .ok (.sipush 300, 3) := by decide +kernel
theorem dX12_lives_50 : decode cX12_lives 50 = .ok (.if_icmp .ne 11, 3) := by decide +kernel
theorem dX12_lives_53 : decode cX12_lives 53 = .ok (.aload_n 0, 1) := by decide +kernel
theorem dX12_lives_54 : decode cX12_lives 54 = .ok (.getfield 71, 3) := by decide +kernel
theorem dX12_lives_57 : decode cX12_lives 57 = .ok (.iconst 4, 1) := by decide +kernel
theorem dX12_lives_58 : decode cX12_lives 58 = .ok (.iconst 1, 1) := by decide +kernel
theorem dX12_lives_59 : decode cX12_lives 59 = .ok (.iastore, 1) := by decide +kernel
theorem dX12_lives_60 : decode cX12_lives 60 = .ok (.return_, 1) := by decide +kernel
theorem dX12_lives_61 : decode cX12_lives 61 = .ok (.sipush 259, 3) := by decide +kernel
theorem dX12_lives_64 : decode cX12_lives 64 = .ok (.bipush 6, 2) := by decide +kernel
theorem dX12_lives_66 : decode cX12_lives 66 = .ok (.iload_n 2, 1) := by decide +kernel
theorem dX12_lives_67 : decode cX12_lives 67 = .ok (.imul, 1) := by decide +kernel
theorem dX12_lives_68 : decode cX12_lives 68 = .ok (.iadd, 1) := by decide +kernel
theorem dX12_lives_69 : decode cX12_lives 69 = .ok (.istore_n 3, 1) := by decide +kernel
theorem dX12_lives_70 : decode cX12_lives 70 = .ok (.aload_n 0, 1) := by decide +kernel
theorem dX12_lives_71 : decode cX12_lives 71 = .ok (.dup, 1) := by decide +kernel
theorem dX12_lives_72 : decode cX12_lives 72 = .ok (.getfield 468, 3) := by decide +kernel
theorem dX12_lives_75 : decode cX12_lives 75 = .ok (.iconst 1, 1) := by decide +kernel
theorem dX12_lives_76 : decode cX12_lives 76 = .ok (.iadd, 1) := by decide +kernel
theorem dX12_lives_77 : decode cX12_lives 77 = .ok (.putfield 468, 3) := by decide +kernel
theorem dX12_lives_80 : decode cX12_lives 80 = .ok (.aload_n 0, 1) := by decide +kernel
theorem dX12_lives_81 : decode cX12_lives 81 = .ok (.getfield 7, 3) := by decide +kernel
theorem dX12_lives_84 : decode cX12_lives 84 = .ok (.iload_n 3, 1) := by decide +kernel
theorem dX12_lives_85 : decode cX12_lives 85 = .ok (.iaload, 1) := by decide +kernel
theorem dX12_lives_86 : decode cX12_lives 86 = .ok (.bipush 23, 2) := by decide +kernel
theorem dX12_lives_88 : decode cX12_lives 88 = .ok (.if_icmp .ne 4, 3) := by decide +kernel
theorem dX12_lives_91 : decode cX12_lives 91 = .ok (.return_, 1) := by decide +kernel
theorem dX12_lives_92 : decode cX12_lives 92 = .ok (.aload_n 0, 1) := by decide +kernel
theorem dX12_lives_93 : decode cX12_lives 93 = .ok (.getfield 71, 3) := by decide +kernel
theorem dX12_lives_96 : decode cX12_lives 96 = .ok (.iconst 0, 1) := by decide +kernel
theorem dX12_lives_97 : decode cX12_lives 97 = .ok (.dup2, 1) := by decide +kernel
theorem dX12_lives_98 : decode cX12_lives 98 = .ok (.iaload, 1) := by decide +kernel
theorem dX12_lives_99 : decode cX12_lives 99 = .ok (.aload_n 0, 1) := by decide +kernel
theorem dX12_lives_100 : decode cX12_lives 100 = .ok (.iload_n 3, 1) := by decide +kernel
theorem dX12_lives_101 : decode cX12_lives 101 = .ok (.invokevirtual 471, 3) := by decide +kernel
theorem dX12_lives_104 : decode cX12_lives 104 = .ok (.ifCond .eq 7, 3) := by decide +kernel
theorem dX12_lives_107 : decode cX12_lives 107 = .ok (.iconst 0, 1) := by decide +kernel
theorem dX12_lives_108 : decode cX12_lives 108 = .ok (.goto 4, 3) := by decide +kernel
theorem dX12_lives_111 : decode cX12_lives 111 = .ok (.iconst 1, 1) := by decide +kernel
theorem dX12_lives_112 : decode cX12_lives 112 = .ok (.iadd, 1) := by decide +kernel
theorem dX12_lives_113 : decode cX12_lives 113 = .ok (.iastore, 1) := by decide +kernel
theorem dX12_lives_114 : decode cX12_lives 114 = .ok (.aload_n 0, 1) := by decide +kernel
theorem dX12_lives_115 : decode cX12_lives 115 = .ok (.getfield 7, 3) := by decide +kernel
theorem dX12_lives_118 : decode cX12_lives 118 = .ok (.iload_n 3, 1) := by decide +kernel
theorem dX12_lives_119 : decode cX12_lives 119 = .ok (.iaload, 1) := by decide +kernel
theorem dX12_lives_120 : decode cX12_lives 120 = .ok (.bipush 21, 2) := by decide +kernel
theorem dX12_lives_122 : decode cX12_lives 122 = .ok (.if_icmp .ne 19, 3) := by decide +kernel
theorem dX12_lives_125 : decode cX12_lives 125 = .ok (.aload_n 0, 1) := by decide +kernel
theorem dX12_lives_126 : decode cX12_lives 126 = .ok (.getfield 68, 3) := by decide +kernel
theorem dX12_lives_129 : decode cX12_lives 129 = .ok (.iload_n 2, 1) := by decide +kernel
theorem dX12_lives_130 : decode cX12_lives 130 = .ok (.aload_n 0, 1) := by decide +kernel
theorem dX12_lives_131 : decode cX12_lives 131 = .ok (.getfield 7, 3) := by decide +kernel
theorem dX12_lives_134 : decode cX12_lives 134 = .ok (.iload_n 3, 1) := by decide +kernel
theorem dX12_lives_135 : decode cX12_lives 135 = .ok (.iconst 1, 1) := by decide +kernel
theorem dX12_lives_136 : decode cX12_lives 136 = .ok (.iadd, 1) := by decide +kernel
theorem dX12_lives_137 : decode cX12_lives 137 = .ok (.iaload, 1) := by decide +kernel
theorem dX12_lives_138 : decode cX12_lives 138 = .ok (.iconst 1, 1) := by decide +kernel
theorem dX12_lives_139 : decode cX12_lives 139 = .ok (.isub, 1) := by decide +kernel
theorem dX12_lives_140 : decode cX12_lives 140 = .ok (.iastore, 1) := by decide +kernel
theorem dX12_lives_141 : decode cX12_lives 141 = .ok (.aload_n 0, 1) := by decide +kernel
theorem dX12_lives_142 : decode cX12_lives 142 = .ok (.aload_n 0, 1) := by decide +kernel
theorem dX12_lives_143 : decode cX12_lives 143 = .ok (.getfield 7, 3) := by decide +kernel
theorem dX12_lives_146 : decode cX12_lives 146 = .ok (.iload_n 3, 1) := by decide +kernel
theorem dX12_lives_147 : decode cX12_lives 147 = .ok (.iaload, 1) := by decide +kernel
theorem dX12_lives_148 : decode cX12_lives 148 = .ok (.sipush 2000, 3) := by decide +kernel
theorem dX12_lives_151 : decode cX12_lives 151 = .ok (.if_icmp .lt 24, 3) := by decide +kernel
theorem dX12_lives_154 : decode cX12_lives 154 = .ok (.aload_n 0, 1) := by decide +kernel
theorem dX12_lives_155 : decode cX12_lives 155 = .ok (.iload_n 3, 1) := by decide +kernel
theorem dX12_lives_156 : decode cX12_lives 156 = .ok (.invokevirtual 474, 3) := by decide +kernel
theorem dX12_lives_159 : decode cX12_lives 159 = .ok (.ifCond .ne 16, 3) := by decide +kernel
theorem dX12_lives_162 : decode cX12_lives 162 = .ok (.aload_n 0, 1) := by decide +kernel
theorem dX12_lives_163 : decode cX12_lives 163 = .ok (.getfield 7, 3) := by decide +kernel
theorem dX12_lives_166 : decode cX12_lives 166 = .ok (.iload_n 3, 1) := by decide +kernel
theorem dX12_lives_167 : decode cX12_lives 167 = .ok (.iconst 4, 1) := by decide +kernel
theorem dX12_lives_168 : decode cX12_lives 168 = .ok (.iadd, 1) := by decide +kernel
theorem dX12_lives_169 : decode cX12_lives 169 = .ok (.iaload, 1) := by decide +kernel
theorem dX12_lives_170 : decode cX12_lives 170 = .ok (.iconst 1, 1) := by decide +kernel
theorem dX12_lives_171 : decode cX12_lives 171 = .ok (.iadd, 1) := by decide +kernel
theorem dX12_lives_172 : decode cX12_lives 172 = .ok (.goto 6, 3) := by decide +kernel
theorem dX12_lives_175 : decode cX12_lives 175 = .ok (.iload_n 2, 1) := by decide +kernel
theorem dX12_lives_176 : decode cX12_lives 176 = .ok (.iconst 1, 1) := by decide +kernel
theorem dX12_lives_177 : decode cX12_lives 177 = .ok (.iadd, 1) := by decide +kernel
theorem dX12_lives_178 : decode cX12_lives 178 = .ok (.invokevirtual 477, 3) := by decide +kernel
theorem dX12_lives_181 : decode cX12_lives 181 = .ok (.istore_n 2, 1) := by decide +kernel
theorem dX12_lives_182 : decode cX12_lives 182 = .ok (.goto (-150), 3) := by decide +kernel
theorem dX12_lives_185 : decode cX12_lives 185 = .ok (.return_, 1) := by decide +kernel
noncomputable def fX12_lives_s12 (rf : Nat → Nat → Nat) (a0 : Nat) (τ12 : Int32) (μ0 : o_Mem) : Option ((Nat × (Int32)) × o_Mem) :=
  if 5 ≤ τ12 then (
    some ((30, 0), μ0))
  else (
    o_ck (0 ≤ (τ12).toInt ∧ (τ12).toInt < 5) <|
    o_seq (o_wI μ0 (rf a0 35) τ12.toNatClampNeg 0) fun μ1 =>
    some ((12, (τ12 + 1)), μ1))
noncomputable def fX12_lives_j178 (rf : Nat → Nat → Nat) (a0 : Nat) (b0 : Nat) (y1 : Int32) (μ0 : o_Mem) : Option ((Nat × (Int32)) × o_Mem) :=
  o_bd (fX12_behindEnds rf b0 y1 μ0) fun r1 μ1 =>
  some ((32, r1), μ1)
noncomputable def fX12_lives_j175 (rf : Nat → Nat → Nat) (a0 : Nat) (x2 : Int32) (b0 : Nat) (μ0 : o_Mem) : Option ((Nat × (Int32)) × o_Mem) :=
  fX12_lives_j178 rf a0 b0 (x2 + 1) μ0
noncomputable def fX12_lives_j141 (rf : Nat → Nat → Nat) (a0 : Nat) (x2 : Int32) (x3 : Int32) (μ0 : o_Mem) : Option ((Nat × (Int32)) × o_Mem) :=
  o_ck (0 ≤ (x3).toInt ∧ (x3).toInt < 3756) <|
  if (μ0.1 (rf a0 0) x3.toNatClampNeg) < 2000 then (
    fX12_lives_j175 rf a0 x2 a0 μ0)
  else (
    o_bd (fX12_holds rf a0 x3 μ0) fun r1 μ1 =>
    if r1 = 0 then (
      o_ck (0 ≤ ((x3 + 4)).toInt ∧ ((x3 + 4)).toInt < 3756) <|
      fX12_lives_j178 rf a0 a0 ((μ1.1 (rf a0 0) ((x3 + 4)).toNatClampNeg) + 1) μ1)
    else (
      fX12_lives_j175 rf a0 x2 a0 μ1))
noncomputable def fX12_lives_j112 (rf : Nat → Nat → Nat) (a0 : Nat) (x2 : Int32) (x3 : Int32) (b0 : Nat) (y1 : Int32) (y2 : Int32) (y3 : Int32) (μ0 : o_Mem) : Option ((Nat × (Int32)) × o_Mem) :=
  o_ck (0 ≤ (y1).toInt ∧ (y1).toInt < 5) <|
  o_seq (o_wI μ0 b0 y1.toNatClampNeg (y2 + y3)) fun μ1 =>
  o_ck (0 ≤ (x3).toInt ∧ (x3).toInt < 3756) <|
  if (μ1.1 (rf a0 0) x3.toNatClampNeg) = 21 then (
    o_ck (0 ≤ ((x3 + 1)).toInt ∧ ((x3 + 1)).toInt < 3756) <|
    o_ck (0 ≤ (x2).toInt ∧ (x2).toInt < 80) <|
    o_seq (o_wI μ1 (rf a0 34) x2.toNatClampNeg ((μ1.1 (rf a0 0) ((x3 + 1)).toNatClampNeg) - 1)) fun μ2 =>
    fX12_lives_j141 rf a0 x2 x3 μ2)
  else (
    fX12_lives_j141 rf a0 x2 x3 μ1)
noncomputable def fX12_lives_s32 (rf : Nat → Nat → Nat) (a0 : Nat) (τ32 : Int32) (μ0 : o_Mem) : Option ((Nat × (Int32)) × o_Mem) :=
  if (μ0.1 (rf a0 0) 12) ≤ τ32 then (
    some ((185, 0), μ0))
  else (
    if (μ0.1 a0 33) = 300 then (
      some ((53, 0), μ0))
    else (
      o_seq (o_wI μ0 a0 33 ((μ0.1 a0 33) + 1)) fun μ1 =>
      o_ck (0 ≤ ((259 + (6 * τ32))).toInt ∧ ((259 + (6 * τ32))).toInt < 3756) <|
      if (μ1.1 (rf a0 0) ((259 + (6 * τ32))).toNatClampNeg) = 23 then (
        some ((91, 0), μ1))
      else (
        o_bd (fX12_does rf a0 (259 + (6 * τ32)) μ1) fun r1 μ2 =>
        if r1 = 0 then (
          fX12_lives_j112 rf a0 τ32 (259 + (6 * τ32)) (rf a0 35) 0 (μ1.1 (rf a0 35) 0) 1 μ2)
        else (
          fX12_lives_j112 rf a0 τ32 (259 + (6 * τ32)) (rf a0 35) 0 (μ1.1 (rf a0 35) 0) 0 μ2))))
noncomputable def fX12_lives (rf : Nat → Nat → Nat) (a0 : Nat) (x1 : Int32) (μ0 : o_Mem) : Option (Unit × o_Mem) :=
  o_seq (o_wI μ0 a0 32 x1) fun μ1 =>
  o_seq (o_wI μ1 a0 33 0) fun μ2 =>
  o_bd (o_lp 12 (fX12_lives_s12 rf a0) o_fuel (0 : Int32) μ2) fun ex3 μ3 =>
  if ex3.1 = 30 then (
    o_bd (o_lp 32 (fX12_lives_s32 rf a0) o_fuel (0 : Int32) μ3) fun ex4 μ4 =>
    if ex4.1 = 53 then (
      o_seq (o_wI μ4 (rf a0 35) 4 1) fun μ5 =>
      some ((), μ5))
    else
    if ex4.1 = 91 then (
      some ((), μ4))
    else
    if ex4.1 = 185 then (
      some ((), μ4))
    else
      none)
  else
    none
set_option maxRecDepth 20000 in
theorem dnX12_lives_s12 {X : o_Cx} (hX : o_ok X) {d : Nat} {a0 : Nat} {τ12 : Int32} {μ0 : o_Mem} {K : (Nat × (Int32)) → o_Mem → Prop} {Q : Option Value → o_Mem → Prop} (h0 : o_is X a0 (.inl 12)) (h : o_Post (fX12_lives_s12 (o_rf X) a0 τ12 μ0) K) (kh : ∀ (τ12 : Int32) (μ : o_Mem), K (12, τ12) μ → o_Ev X (d + 10) mX12_lives 12 [some (.ref (o_ad X a0)), none, some (.int τ12), none] [] μ Q) (k30 : ∀ (τ12 : Int32) (μ : o_Mem), K (30, τ12) μ → o_Ev X (d + 10) mX12_lives 30 [some (.ref (o_ad X a0)), none, none, none] [] μ Q) : o_Ev X (d + 10) mX12_lives 12 [some (.ref (o_ad X a0)), none, some (.int τ12), none] [] μ0 Q := by
  unfold fX12_lives_s12 at h
  refine s_iload_n (i := 2) dX12_lives_12 rfl rfl ?_
  refine s_iconst dX12_lives_13 kI_5 ?_
  refine s_icmp_ge (tgt := 30) dX12_lives_14 rfl (fun c1 => ?_) (fun c1 => ?_)
  · have h := o_if_t c1 h
    refine s_mask [true, false, false, false] (L' := [some (.ref (o_ad X a0)), none, none, none]) rfl ?_
    exact k30 0 _ (o_ret h)
  · have h := o_if_f c1 h
    refine s_aload_n (i := 0) dX12_lives_17 rfl rfl ?_
    refine s_getR hX h0 flX12_71 rfl dX12_lives_18 (fun (g1 : o_is X (o_rf X a0 35) (.inr (0, 5))) => ?_)
    refine s_iload_n (i := 2) dX12_lives_21 rfl rfl ?_
    refine s_iconst dX12_lives_22 kI_0 ?_
    have hc := o_ck_c h
    have h := o_ck_k h
    refine s_iastK hX g1 hc rfl dX12_lives_23 (o_gen h (fun μ1 h => ?_))
    refine s_iinc (v := (τ12 + 1)) dX12_lives_24 rfl rfl (Nat.le_of_ble_eq_true rfl) rfl ?_
    refine s_goto (tgt := 12) dX12_lives_27 rfl ?_
    refine s_mask [true, false, true, false] (L' := [some (.ref (o_ad X a0)), none, some (.int (τ12 + 1)), none]) rfl ?_
    exact kh (τ12 + 1) _ (o_ret h)
set_option maxRecDepth 20000 in
theorem dnX12_lives_j178 {X : o_Cx} (hX : o_ok X) {d : Nat} {a0 : Nat} {b0 : Nat} {y1 : Int32} {μ0 : o_Mem} {K : (Nat × (Int32)) → o_Mem → Prop} {Q : Option Value → o_Mem → Prop} (h0 : o_is X a0 (.inl 12)) (hb0 : o_is X b0 (.inl 12)) (h : o_Post (fX12_lives_j178 (o_rf X) a0 b0 y1 μ0) K) (kh : ∀ (τ32 : Int32) (μ : o_Mem), K (32, τ32) μ → o_Ev X (d + 10) mX12_lives 32 [some (.ref (o_ad X a0)), none, some (.int τ32), none] [] μ Q) (k53 : ∀ (τ32 : Int32) (μ : o_Mem), K (53, τ32) μ → o_Ev X (d + 10) mX12_lives 53 [some (.ref (o_ad X a0)), none, none, none] [] μ Q) (k91 : ∀ (τ32 : Int32) (μ : o_Mem), K (91, τ32) μ → o_Ev X (d + 10) mX12_lives 91 [none, none, none, none] [] μ Q) (k185 : ∀ (τ32 : Int32) (μ : o_Mem), K (185, τ32) μ → o_Ev X (d + 10) mX12_lives 185 [none, none, none, none] [] μ Q) : o_Ev X (d + 10) mX12_lives 178 [some (.ref (o_ad X a0)), none, none, none] [.int y1, .ref (o_ad X b0)] μ0 Q := by
  unfold fX12_lives_j178 at h
  refine s_callVi (C := mX12_behindEnds) (As := [.int y1]) (rest := []) (L0 := [some (.ref (o_ad X b0)), some (.int y1), none, none, none]) hX hb0 clX12_477 dX12_lives_178 rfl rfl (Nat.le_of_ble_eq_true rfl) (Nat.le_of_ble_eq_true rfl) (dnX12_behindEnds hX hb0 (o_bdp h)) (fun r1 μ1 h => ?_)
  refine s_istore_n (i := 2) dX12_lives_181 rfl (Nat.le_of_ble_eq_true rfl) rfl ?_
  refine s_goto (tgt := 32) dX12_lives_182 rfl ?_
  refine s_mask [true, false, true, false] (L' := [some (.ref (o_ad X a0)), none, some (.int r1), none]) rfl ?_
  exact kh r1 _ (o_ret h)
set_option maxRecDepth 20000 in
theorem dnX12_lives_j175 {X : o_Cx} (hX : o_ok X) {d : Nat} {a0 : Nat} {x2 : Int32} {b0 : Nat} {μ0 : o_Mem} {K : (Nat × (Int32)) → o_Mem → Prop} {Q : Option Value → o_Mem → Prop} (h0 : o_is X a0 (.inl 12)) (hb0 : o_is X b0 (.inl 12)) (h : o_Post (fX12_lives_j175 (o_rf X) a0 x2 b0 μ0) K) (kh : ∀ (τ32 : Int32) (μ : o_Mem), K (32, τ32) μ → o_Ev X (d + 10) mX12_lives 32 [some (.ref (o_ad X a0)), none, some (.int τ32), none] [] μ Q) (k53 : ∀ (τ32 : Int32) (μ : o_Mem), K (53, τ32) μ → o_Ev X (d + 10) mX12_lives 53 [some (.ref (o_ad X a0)), none, none, none] [] μ Q) (k91 : ∀ (τ32 : Int32) (μ : o_Mem), K (91, τ32) μ → o_Ev X (d + 10) mX12_lives 91 [none, none, none, none] [] μ Q) (k185 : ∀ (τ32 : Int32) (μ : o_Mem), K (185, τ32) μ → o_Ev X (d + 10) mX12_lives 185 [none, none, none, none] [] μ Q) : o_Ev X (d + 10) mX12_lives 175 [some (.ref (o_ad X a0)), none, some (.int x2), none] [.ref (o_ad X b0)] μ0 Q := by
  unfold fX12_lives_j175 at h
  refine s_iload_n (i := 2) dX12_lives_175 rfl rfl ?_
  refine s_iconst dX12_lives_176 kI_1 ?_
  refine s_iadd dX12_lives_177 ?_
  refine s_mask [true, false, false, false] (L' := [some (.ref (o_ad X a0)), none, none, none]) rfl ?_
  exact dnX12_lives_j178 hX h0 hb0 h kh k53 k91 k185
set_option maxRecDepth 20000 in
theorem dnX12_lives_j141 {X : o_Cx} (hX : o_ok X) {d : Nat} {a0 : Nat} {x2 : Int32} {x3 : Int32} {μ0 : o_Mem} {K : (Nat × (Int32)) → o_Mem → Prop} {Q : Option Value → o_Mem → Prop} (h0 : o_is X a0 (.inl 12)) (h : o_Post (fX12_lives_j141 (o_rf X) a0 x2 x3 μ0) K) (kh : ∀ (τ32 : Int32) (μ : o_Mem), K (32, τ32) μ → o_Ev X (d + 10) mX12_lives 32 [some (.ref (o_ad X a0)), none, some (.int τ32), none] [] μ Q) (k53 : ∀ (τ32 : Int32) (μ : o_Mem), K (53, τ32) μ → o_Ev X (d + 10) mX12_lives 53 [some (.ref (o_ad X a0)), none, none, none] [] μ Q) (k91 : ∀ (τ32 : Int32) (μ : o_Mem), K (91, τ32) μ → o_Ev X (d + 10) mX12_lives 91 [none, none, none, none] [] μ Q) (k185 : ∀ (τ32 : Int32) (μ : o_Mem), K (185, τ32) μ → o_Ev X (d + 10) mX12_lives 185 [none, none, none, none] [] μ Q) : o_Ev X (d + 10) mX12_lives 141 [some (.ref (o_ad X a0)), none, some (.int x2), some (.int x3)] [] μ0 Q := by
  unfold fX12_lives_j141 at h
  refine s_aload_n (i := 0) dX12_lives_141 rfl rfl ?_
  refine s_aload_n (i := 0) dX12_lives_142 rfl rfl ?_
  refine s_getR hX h0 flX12_7 rfl dX12_lives_143 (fun (g1 : o_is X (o_rf X a0 0) (.inr (0, 3756))) => ?_)
  refine s_iload_n (i := 3) dX12_lives_146 rfl rfl ?_
  have hc := o_ck_c h
  have h := o_ck_k h
  refine s_ialdK g1 hc rfl dX12_lives_147 ?_
  refine s_sipush dX12_lives_148 kS_2000 ?_
  refine s_icmp_lt (tgt := 175) dX12_lives_151 rfl (fun c1 => ?_) (fun c1 => ?_)
  · have h := o_if_t c1 h
    refine s_mask [true, false, true, false] (L' := [some (.ref (o_ad X a0)), none, some (.int x2), none]) rfl ?_
    exact dnX12_lives_j175 hX h0 h0 h kh k53 k91 k185
  · have h := o_if_f c1 h
    refine s_aload_n (i := 0) dX12_lives_154 rfl rfl ?_
    refine s_iload_n (i := 3) dX12_lives_155 rfl rfl ?_
    refine s_callVz (C := mX12_holds) (As := [.int x3]) (rest := [.ref (o_ad X a0)]) (L0 := [some (.ref (o_ad X a0)), some (.int x3), none, none]) hX h0 clX12_474 dX12_lives_156 rfl rfl (Nat.le_of_ble_eq_true rfl) (Nat.le_of_ble_eq_true rfl) (dnX12_holds hX h0 (o_bdp h)) (fun r1 μ1 zr1 h => ?_)
    refine s_if_ne (tgt := 175) dX12_lives_159 rfl (fun c1 => ?_) (fun c1 => ?_)
    · have h := o_if_f c1 h
      refine s_mask [true, false, true, false] (L' := [some (.ref (o_ad X a0)), none, some (.int x2), none]) rfl ?_
      exact dnX12_lives_j175 hX h0 h0 h kh k53 k91 k185
    · have h := o_if_t c1 h
      refine s_aload_n (i := 0) dX12_lives_162 rfl rfl ?_
      refine s_getR hX h0 flX12_7 rfl dX12_lives_163 (fun (g2 : o_is X (o_rf X a0 0) (.inr (0, 3756))) => ?_)
      refine s_iload_n (i := 3) dX12_lives_166 rfl rfl ?_
      refine s_iconst dX12_lives_167 kI_4 ?_
      refine s_iadd dX12_lives_168 ?_
      have hc := o_ck_c h
      have h := o_ck_k h
      refine s_ialdK g2 hc rfl dX12_lives_169 ?_
      refine s_iconst dX12_lives_170 kI_1 ?_
      refine s_iadd dX12_lives_171 ?_
      refine s_goto (tgt := 178) dX12_lives_172 rfl ?_
      refine s_mask [true, false, false, false] (L' := [some (.ref (o_ad X a0)), none, none, none]) rfl ?_
      exact dnX12_lives_j178 hX h0 h0 h kh k53 k91 k185
set_option maxRecDepth 20000 in
theorem dnX12_lives_j112 {X : o_Cx} (hX : o_ok X) {d : Nat} {a0 : Nat} {x2 : Int32} {x3 : Int32} {b0 : Nat} {y1 : Int32} {y2 : Int32} {y3 : Int32} {μ0 : o_Mem} {K : (Nat × (Int32)) → o_Mem → Prop} {Q : Option Value → o_Mem → Prop} (h0 : o_is X a0 (.inl 12)) (hb0 : o_is X b0 (.inr (0, 5))) (h : o_Post (fX12_lives_j112 (o_rf X) a0 x2 x3 b0 y1 y2 y3 μ0) K) (kh : ∀ (τ32 : Int32) (μ : o_Mem), K (32, τ32) μ → o_Ev X (d + 10) mX12_lives 32 [some (.ref (o_ad X a0)), none, some (.int τ32), none] [] μ Q) (k53 : ∀ (τ32 : Int32) (μ : o_Mem), K (53, τ32) μ → o_Ev X (d + 10) mX12_lives 53 [some (.ref (o_ad X a0)), none, none, none] [] μ Q) (k91 : ∀ (τ32 : Int32) (μ : o_Mem), K (91, τ32) μ → o_Ev X (d + 10) mX12_lives 91 [none, none, none, none] [] μ Q) (k185 : ∀ (τ32 : Int32) (μ : o_Mem), K (185, τ32) μ → o_Ev X (d + 10) mX12_lives 185 [none, none, none, none] [] μ Q) : o_Ev X (d + 10) mX12_lives 112 [some (.ref (o_ad X a0)), none, some (.int x2), some (.int x3)] [.int y3, .int y2, .int y1, .ref (o_ad X b0)] μ0 Q := by
  unfold fX12_lives_j112 at h
  refine s_iadd dX12_lives_112 ?_
  have hc := o_ck_c h
  have h := o_ck_k h
  refine s_iastK hX hb0 hc rfl dX12_lives_113 (o_gen h (fun μ1 h => ?_))
  refine s_aload_n (i := 0) dX12_lives_114 rfl rfl ?_
  refine s_getR hX h0 flX12_7 rfl dX12_lives_115 (fun (g1 : o_is X (o_rf X a0 0) (.inr (0, 3756))) => ?_)
  refine s_iload_n (i := 3) dX12_lives_118 rfl rfl ?_
  have hc := o_ck_c h
  have h := o_ck_k h
  refine s_ialdK g1 hc rfl dX12_lives_119 ?_
  refine s_bipush dX12_lives_120 kB_21 ?_
  refine s_icmp_ne (tgt := 141) dX12_lives_122 rfl (fun c1 => ?_) (fun c1 => ?_)
  · have h := o_if_f c1 h
    refine s_mask [true, false, true, true] (L' := [some (.ref (o_ad X a0)), none, some (.int x2), some (.int x3)]) rfl ?_
    exact dnX12_lives_j141 hX h0 h kh k53 k91 k185
  · have h := o_if_t c1 h
    refine s_aload_n (i := 0) dX12_lives_125 rfl rfl ?_
    refine s_getR hX h0 flX12_68 rfl dX12_lives_126 (fun (g2 : o_is X (o_rf X a0 34) (.inr (0, 80))) => ?_)
    refine s_iload_n (i := 2) dX12_lives_129 rfl rfl ?_
    refine s_aload_n (i := 0) dX12_lives_130 rfl rfl ?_
    refine s_getR hX h0 flX12_7 rfl dX12_lives_131 (fun (g3 : o_is X (o_rf X a0 0) (.inr (0, 3756))) => ?_)
    refine s_iload_n (i := 3) dX12_lives_134 rfl rfl ?_
    refine s_iconst dX12_lives_135 kI_1 ?_
    refine s_iadd dX12_lives_136 ?_
    have hc := o_ck_c h
    have h := o_ck_k h
    refine s_ialdK g3 hc rfl dX12_lives_137 ?_
    refine s_iconst dX12_lives_138 kI_1 ?_
    refine s_isub dX12_lives_139 ?_
    have hc := o_ck_c h
    have h := o_ck_k h
    refine s_iastK hX g2 hc rfl dX12_lives_140 (o_gen h (fun μ2 h => ?_))
    refine s_mask [true, false, true, true] (L' := [some (.ref (o_ad X a0)), none, some (.int x2), some (.int x3)]) rfl ?_
    exact dnX12_lives_j141 hX h0 h kh k53 k91 k185
set_option maxRecDepth 20000 in
theorem dnX12_lives_s32 {X : o_Cx} (hX : o_ok X) {d : Nat} {a0 : Nat} {τ32 : Int32} {μ0 : o_Mem} {K : (Nat × (Int32)) → o_Mem → Prop} {Q : Option Value → o_Mem → Prop} (h0 : o_is X a0 (.inl 12)) (h : o_Post (fX12_lives_s32 (o_rf X) a0 τ32 μ0) K) (kh : ∀ (τ32 : Int32) (μ : o_Mem), K (32, τ32) μ → o_Ev X (d + 10) mX12_lives 32 [some (.ref (o_ad X a0)), none, some (.int τ32), none] [] μ Q) (k53 : ∀ (τ32 : Int32) (μ : o_Mem), K (53, τ32) μ → o_Ev X (d + 10) mX12_lives 53 [some (.ref (o_ad X a0)), none, none, none] [] μ Q) (k91 : ∀ (τ32 : Int32) (μ : o_Mem), K (91, τ32) μ → o_Ev X (d + 10) mX12_lives 91 [none, none, none, none] [] μ Q) (k185 : ∀ (τ32 : Int32) (μ : o_Mem), K (185, τ32) μ → o_Ev X (d + 10) mX12_lives 185 [none, none, none, none] [] μ Q) : o_Ev X (d + 10) mX12_lives 32 [some (.ref (o_ad X a0)), none, some (.int τ32), none] [] μ0 Q := by
  unfold fX12_lives_s32 at h
  refine s_iload_n (i := 2) dX12_lives_32 rfl rfl ?_
  refine s_aload_n (i := 0) dX12_lives_33 rfl rfl ?_
  refine s_getR hX h0 flX12_7 rfl dX12_lives_34 (fun (g1 : o_is X (o_rf X a0 0) (.inr (0, 3756))) => ?_)
  refine s_bipush dX12_lives_37 kB_12 ?_
  refine s_ialdK g1 ⟨by decide, by decide⟩ kN_12 dX12_lives_39 ?_
  refine s_icmp_ge (tgt := 185) dX12_lives_40 rfl (fun c1 => ?_) (fun c1 => ?_)
  · have h := o_if_t c1 h
    refine s_mask [false, false, false, false] (L' := [none, none, none, none]) rfl ?_
    exact k185 0 _ (o_ret h)
  · have h := o_if_f c1 h
    refine s_aload_n (i := 0) dX12_lives_43 rfl rfl ?_
    refine s_getI h0 flX12_468 rfl dX12_lives_44 ?_
    refine s_sipush dX12_lives_47 kS_300 ?_
    refine s_icmp_ne (tgt := 61) dX12_lives_50 rfl (fun c1 => ?_) (fun c1 => ?_)
    · have h := o_if_f c1 h
      refine s_sipush dX12_lives_61 kS_259 ?_
      refine s_bipush dX12_lives_64 kB_6 ?_
      refine s_iload_n (i := 2) dX12_lives_66 rfl rfl ?_
      refine s_imul dX12_lives_67 ?_
      refine s_iadd dX12_lives_68 ?_
      refine s_istore_n (i := 3) dX12_lives_69 rfl (Nat.le_of_ble_eq_true rfl) rfl ?_
      refine s_aload_n (i := 0) dX12_lives_70 rfl rfl ?_
      refine s_dup dX12_lives_71 rfl ?_
      refine s_getI h0 flX12_468 rfl dX12_lives_72 ?_
      refine s_iconst dX12_lives_75 kI_1 ?_
      refine s_iadd dX12_lives_76 ?_
      refine s_putI hX h0 fwX12_468 rfl dX12_lives_77 (o_gen h (fun μ1 h => ?_))
      refine s_aload_n (i := 0) dX12_lives_80 rfl rfl ?_
      refine s_getR hX h0 flX12_7 rfl dX12_lives_81 (fun (g2 : o_is X (o_rf X a0 0) (.inr (0, 3756))) => ?_)
      refine s_iload_n (i := 3) dX12_lives_84 rfl rfl ?_
      have hc := o_ck_c h
      have h := o_ck_k h
      refine s_ialdK g2 hc rfl dX12_lives_85 ?_
      refine s_bipush dX12_lives_86 kB_23 ?_
      refine s_icmp_ne (tgt := 92) dX12_lives_88 rfl (fun c1 => ?_) (fun c1 => ?_)
      · have h := o_if_f c1 h
        refine s_aload_n (i := 0) dX12_lives_92 rfl rfl ?_
        refine s_getR hX h0 flX12_71 rfl dX12_lives_93 (fun (g3 : o_is X (o_rf X a0 35) (.inr (0, 5))) => ?_)
        refine s_iconst dX12_lives_96 kI_0 ?_
        refine s_dup2 dX12_lives_97 rfl rfl ?_
        refine s_ialdK g3 ⟨by decide, by decide⟩ kN_0 dX12_lives_98 ?_
        refine s_aload_n (i := 0) dX12_lives_99 rfl rfl ?_
        refine s_iload_n (i := 3) dX12_lives_100 rfl rfl ?_
        refine s_callVz (C := mX12_does) (As := [.int (259 + (6 * τ32))]) (rest := [.int (μ1.1 (o_rf X a0 35) 0), .int 0, .ref (o_ad X (o_rf X a0 35))]) (L0 := [some (.ref (o_ad X a0)), some (.int (259 + (6 * τ32)))]) hX h0 clX12_471 dX12_lives_101 rfl rfl (Nat.le_of_ble_eq_true rfl) (Nat.le_of_ble_eq_true rfl) (dnX12_does hX h0 (o_bdp h)) (fun r1 μ2 zr1 h => ?_)
        refine s_if_eq (tgt := 111) dX12_lives_104 rfl (fun c1 => ?_) (fun c1 => ?_)
        · have h := o_if_t c1 h
          refine s_iconst dX12_lives_111 kI_1 ?_
          refine s_mask [true, false, true, true] (L' := [some (.ref (o_ad X a0)), none, some (.int τ32), some (.int (259 + (6 * τ32)))]) rfl ?_
          exact dnX12_lives_j112 hX h0 g3 h kh k53 k91 k185
        · have h := o_if_f c1 h
          refine s_iconst dX12_lives_107 kI_0 ?_
          refine s_goto (tgt := 112) dX12_lives_108 rfl ?_
          refine s_mask [true, false, true, true] (L' := [some (.ref (o_ad X a0)), none, some (.int τ32), some (.int (259 + (6 * τ32)))]) rfl ?_
          exact dnX12_lives_j112 hX h0 g3 h kh k53 k91 k185
      · have h := o_if_t c1 h
        refine s_mask [false, false, false, false] (L' := [none, none, none, none]) rfl ?_
        exact k91 0 _ (o_ret h)
    · have h := o_if_t c1 h
      refine s_mask [true, false, false, false] (L' := [some (.ref (o_ad X a0)), none, none, none]) rfl ?_
      exact k53 0 _ (o_ret h)
set_option maxRecDepth 20000 in
theorem dnX12_lives {X : o_Cx} (hX : o_ok X) {d : Nat} {a0 : Nat} {x1 : Int32} {μ0 : o_Mem} {q : Unit → o_Mem → Prop} (h0 : o_is X a0 (.inl 12)) (h : o_Post (fX12_lives (o_rf X) a0 x1 μ0) q) : o_Ev X (d + 10) mX12_lives 0 [some (.ref (o_ad X a0)), some (.int x1), none, none] [] μ0 (o_QU q) := by
  unfold fX12_lives at h
  refine s_aload_n (i := 0) dX12_lives_0 rfl rfl ?_
  refine s_iload_n (i := 1) dX12_lives_1 rfl rfl ?_
  refine s_putI hX h0 fwX12_449 rfl dX12_lives_2 (o_gen h (fun μ1 h => ?_))
  refine s_aload_n (i := 0) dX12_lives_5 rfl rfl ?_
  refine s_iconst dX12_lives_6 kI_0 ?_
  refine s_putI hX h0 fwX12_468 rfl dX12_lives_7 (o_gen h (fun μ2 h => ?_))
  refine s_iconst dX12_lives_10 kI_0 ?_
  refine s_istore_n (i := 2) dX12_lives_11 rfl (Nat.le_of_ble_eq_true rfl) rfl ?_
  refine s_mask [true, false, true, false] (L' := [some (.ref (o_ad X a0)), none, some (.int 0), none]) rfl ?_
  refine o_lp_ev (fun τ12 => [some (.ref (o_ad X a0)), none, some (.int τ12), none]) (fun τ12 μ _K h kv ke12 => dnX12_lives_s12 hX h0 h kv (fun τ12 μ3 h => ?_)) o_fuel 0 μ2 (o_bdp h)
  · have h := o_if_t rfl (ke12 (30, τ12) μ3 (o_ne rfl) h)
    refine s_iconst dX12_lives_30 kI_0 ?_
    refine s_istore_n (i := 2) dX12_lives_31 rfl (Nat.le_of_ble_eq_true rfl) rfl ?_
    refine s_mask [true, false, true, false] (L' := [some (.ref (o_ad X a0)), none, some (.int 0), none]) rfl ?_
    refine o_lp_ev (fun τ32 => [some (.ref (o_ad X a0)), none, some (.int τ32), none]) (fun τ32 μ _K h kv ke32 => dnX12_lives_s32 hX h0 h kv (fun τ32 μ4 h => ?_) (fun τ32 μ4 h => ?_) (fun τ32 μ4 h => ?_)) o_fuel 0 μ3 (o_bdp h)
    · have h := o_if_t rfl (ke32 (53, τ32) μ4 (o_ne rfl) h)
      refine s_aload_n (i := 0) dX12_lives_53 rfl rfl ?_
      refine s_getR hX h0 flX12_71 rfl dX12_lives_54 (fun (g1 : o_is X (o_rf X a0 35) (.inr (0, 5))) => ?_)
      refine s_iconst dX12_lives_57 kI_4 ?_
      refine s_iconst dX12_lives_58 kI_1 ?_
      refine s_iastK hX g1 ⟨by decide, by decide⟩ kN_4 dX12_lives_59 (o_gen h (fun μ5 h => ?_))
      exact s_return rfl dX12_lives_60 ⟨rfl, o_ret h⟩
    · have h := o_if_t rfl (o_if_f (o_ne rfl) (ke32 (91, τ32) μ4 (o_ne rfl) h))
      exact s_return rfl dX12_lives_91 ⟨rfl, o_ret h⟩
    · have h := o_if_t rfl (o_if_f (o_ne rfl) (o_if_f (o_ne rfl) (ke32 (185, τ32) μ4 (o_ne rfl) h)))
      exact s_return rfl dX12_lives_185 ⟨rfl, o_ret h⟩
