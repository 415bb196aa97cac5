theorem dX12_laysEchoes_0 : decode cX12_laysEchoes 0 = .ok (.iconst 0, 1) := by decide +kernel
theorem dX12_laysEchoes_1 : decode cX12_laysEchoes 1 = .ok (.istore_n 1, 1) := by decide +kernel
theorem dX12_laysEchoes_2 : decode cX12_laysEchoes 2 = .ok (.iload_n 1, 1) := by decide +kernel
theorem dX12_laysEchoes_3 : decode cX12_laysEchoes 3 = .ok (.bipush 36, 2) := by decide +kernel
theorem dX12_laysEchoes_5 : decode cX12_laysEchoes 5 = .ok (.if_icmp .ge 122, 3) := by decide +kernel
theorem dX12_laysEchoes_8 : decode cX12_laysEchoes 8 = .ok (.iload_n 1, 1) := by decide +kernel
theorem dX12_laysEchoes_9 : decode cX12_laysEchoes 9 = .ok (.bipush 6, 2) := by decide +kernel
theorem dX12_laysEchoes_11 : decode cX12_laysEchoes 11 = .ok (.idiv, 1) := by decide +kernel
theorem dX12_laysEchoes_12 : decode cX12_laysEchoes 12 = .ok (.istore_n 2, 1) := by decide +kernel
theorem dX12_laysEchoes_13 : decode cX12_laysEchoes 13 = .ok (.iload_n 2, 1) := by decide +kernel
theorem dX12_laysEchoes_14 : decode cX12_laysEchoes 14 = .ok (.aload_n 0, 1) := by decide +kernel
theorem dX12_laysEchoes_15 : decode cX12_laysEchoes 15 = .ok (.getfield 7, 3) := by decide +kernel
theorem dX12_laysEchoes_18 : decode cX12_laysEchoes 18 = .ok (.iconst 2, 1) := by decide +kernel
theorem dX12_laysEchoes_19 : decode cX12_laysEchoes 19 = .ok (.iaload, 1) := by decide +kernel
theorem dX12_laysEchoes_20 : decode cX12_laysEchoes 20 = .ok (.if_icmp .ge 32, 3) := by decide +kernel
theorem dX12_laysEchoes_23 : decode cX12_laysEchoes 23 = .ok (.iload_n 1, 1) := by decide +kernel
theorem dX12_laysEchoes_24 : decode cX12_laysEchoes 24 = .ok (.bipush 6, 2) := by decide +kernel
theorem dX12_laysEchoes_26 : decode cX12_laysEchoes 26 = .ok (.irem, 1) := by decide +kernel
theorem dX12_laysEchoes_27 : decode cX12_laysEchoes 27 = .ok (.aload_n 0, 1) := by decide +kernel
theorem dX12_laysEchoes_28 : decode cX12_laysEchoes 28 = .ok (.getfield 7, 3) := by decide +kernel
theorem dX12_laysEchoes_31 : decode cX12_laysEchoes 31 = .ok (.iconst 0, 1) := by decide +kernel
theorem dX12_laysEchoes_32 : decode cX12_laysEchoes 32 = .ok (.iaload, 1) := by decide +kernel
theorem dX12_laysEchoes_33 : decode cX12_laysEchoes 33 = .ok (.if_icmp .ge 19, 3) := by decide +kernel
theorem dX12_laysEchoes_36 : decode cX12_laysEchoes 36 = .ok (.aload_n 0, 1) := by decide +kernel
theorem dX12_laysEchoes_37 : decode cX12_laysEchoes 37 = .ok (.getfield 7, 3) := by decide +kernel
theorem dX12_laysEchoes_40 : decode cX12_laysEchoes 40 = .ok (.iload_n 2, 1) := by decide +kernel
theorem dX12_laysEchoes_41 : decode cX12_laysEchoes 41 = .ok (.iload_n 1, 1) := by decide +kernel
theorem dX12_laysEchoes_42 : decode cX12_laysEchoes 42 = .ok (.bipush 6, 2) := by decide +kernel
theorem dX12_laysEchoes_44 : decode cX12_laysEchoes 44 = .ok (.irem, 1) := by decide +kernel
theorem dX12_laysEchoes_45 : decode cX12_laysEchoes 45 = .ok (.invokestatic 302, 3) := by decide +kernel
theorem dX12_laysEchoes_48 : decode cX12_laysEchoes 48 = .ok (.iaload, 1) := by decide +kernel
theorem dX12_laysEchoes_49 : decode cX12_laysEchoes 49 = .ok (.goto 4, 3) := by decide +kernel
theorem dX12_laysEchoes_52 : decode cX12_laysEchoes 52 = .ok (.iconst (-1), 1) := by decide +kernel
theorem dX12_laysEchoes_53 : decode cX12_laysEchoes 53 = .ok (.istore_n 3, 1) := by decide +kernel
theorem dX12_laysEchoes_54 : decode cX12_laysEchoes 54 = .ok (.aload_n 0, 1) := by decide +kernel
theorem dX12_laysEchoes_55 : decode cX12_laysEchoes 55 = .ok (.getfield 50, 3) := by decide +kernel
theorem dX12_laysEchoes_58 : decode cX12_laysEchoes 58 = .ok (.iload_n 1, 1) := by decide +kernel
theorem dX12_laysEchoes_59 : decode cX12_laysEchoes 59 = .ok (.iconst (-1), 1) := by decide +kernel
theorem dX12_laysEchoes_60 : decode cX12_laysEchoes 60 = .ok (.iastore, 1) := by decide +kernel
theorem dX12_laysEchoes_61 : decode cX12_laysEchoes 61 = .ok (.iload_n 3, 1) := by decide +kernel
theorem dX12_laysEchoes_62 : decode cX12_laysEchoes 62 = .ok (.iconst (-1), 1) := by decide +kernel
theorem dX12_laysEchoes_63 : decode cX12_laysEchoes 63 = .ok (.if_icmp .ne 6, 3) := by decide +kernel
theorem dX12_laysEchoes_66 : decode cX12_laysEchoes 66 = .ok (.goto 55, 3) := by decide +kernel
theorem dX12_laysEchoes_69 : decode cX12_laysEchoes 69 = .ok (.aload_n 0, 1) := by decide +kernel
theorem dX12_laysEchoes_70 : decode cX12_laysEchoes 70 = .ok (.iload_n 2, 1) := by decide +kernel
theorem dX12_laysEchoes_71 : decode cX12_laysEchoes 71 = .ok (.iload_n 3, 1) := by decide +kernel
theorem dX12_laysEchoes_72 : decode cX12_laysEchoes 72 = .ok (.aload_n 0, 1) := by decide +kernel
theorem dX12_laysEchoes_73 : decode cX12_laysEchoes 73 = .ok (.getfield 7, 3) := by decide +kernel
theorem dX12_laysEchoes_76 : decode cX12_laysEchoes 76 = .ok (.iload_n 2, 1) := by decide +kernel
theorem dX12_laysEchoes_77 : decode cX12_laysEchoes 77 = .ok (.iload_n 1, 1) := by decide +kernel
theorem dX12_laysEchoes_78 : decode cX12_laysEchoes 78 = .ok (.bipush 6, 2) := by decide +kernel
theorem dX12_laysEchoes_80 : decode cX12_laysEchoes 80 = .ok (.irem, 1) := by decide +kernel
theorem dX12_laysEchoes_81 : decode cX12_laysEchoes 81 = .ok (.invokestatic 302, 3) := by decide +kernel
theorem dX12_laysEchoes_84 : decode cX12_laysEchoes 84 = .ok (.iconst 1, 1) := by decide +kernel
theorem dX12_laysEchoes_85 : decode cX12_laysEchoes 85 = .ok (.iadd, 1) := by decide +kernel
theorem dX12_laysEchoes_86 : decode cX12_laysEchoes 86 = .ok (.iaload, 1) := by decide +kernel
theorem dX12_laysEchoes_87 : decode cX12_laysEchoes 87 = .ok (.aload_n 0, 1) := by decide +kernel
theorem dX12_laysEchoes_88 : decode cX12_laysEchoes 88 = .ok (.iload_n 2, 1) := by decide +kernel
theorem dX12_laysEchoes_89 : decode cX12_laysEchoes 89 = .ok (.invokevirtual 290, 3) := by decide +kernel
theorem dX12_laysEchoes_92 : decode cX12_laysEchoes 92 = .ok (.invokevirtual 325, 3) := by decide +kernel
theorem dX12_laysEchoes_95 : decode cX12_laysEchoes 95 = .ok (.istore 4, 2) := by decide +kernel
theorem dX12_laysEchoes_97 : decode cX12_laysEchoes 97 = .ok (.aload_n 0, 1) := by decide +kernel
theorem dX12_laysEchoes_98 : decode cX12_laysEchoes 98 = .ok (.getfield 50, 3) := by decide +kernel
theorem dX12_laysEchoes_101 : decode cX12_laysEchoes 101 = .ok (.iload_n 1, 1) := by decide +kernel
theorem dX12_laysEchoes_102 : decode cX12_laysEchoes 102 = .ok (.iload 4, 2) := by decide +kernel
theorem dX12_laysEchoes_104 : decode cX12_laysEchoes 104 = .ok (.iconst (-1), 1) := by decide +kernel
theorem dX12_laysEchoes_105 : decode cX12_laysEchoes 105 = .ok (.if_icmp .ne 8, 3) := by decide +kernel
theorem dX12_laysEchoes_108 : decode cX12_laysEchoes 108 = .ok (.bipush (-2), 2) := by decide +kernel
theorem dX12_laysEchoes_110 : decode cX12_laysEchoes 110 = .ok (.goto 10, 3) := by decide +kernel
theorem dX12_laysEchoes_113 : decode cX12_laysEchoes 113 = .ok (.bipush 6, 2) := by decide +kernel
theorem dX12_laysEchoes_115 : decode cX12_laysEchoes 115 = .ok (.iload_n 3, 1) := by decide +kernel
theorem dX12_laysEchoes_116 : decode cX12_laysEchoes 116 = .ok (.imul, 1) := by decide +kernel
theorem dX12_laysEchoes_117 : decode cX12_laysEchoes 117 = .ok (.iload 4, 2) := by decide +kernel
theorem dX12_laysEchoes_119 : decode cX12_laysEchoes 119 = .ok (.iadd, 1) := by decide +kernel
theorem dX12_laysEchoes_120 : decode cX12_laysEchoes 120 = .ok (.iastore, 1) := by decide +kernel
theorem dX12_laysEchoes_121 : decode cX12_laysEchoes 121 = .ok (.iinc 1 1, 3) := by decide +kernel
theorem dX12_laysEchoes_124 : decode cX12_laysEchoes 124 = .ok (.goto (-122), 3) := by decide +kernel
theorem dX12_laysEchoes_127 : decode cX12_laysEchoes 127 = .ok (.return_, 1) := by decide +kernel
noncomputable def fX12_laysEchoes_j120 (rf : Nat → Nat → Nat) (a0 : Nat) (x1 : Int32) (b0 : Nat) (y1 : Int32) (y2 : Int32) (μ0 : o_Mem) : Option ((Nat × (Int32)) × o_Mem) :=
  o_ck (0 ≤ (y1).toInt ∧ (y1).toInt < 36) <|
  o_seq (o_wI μ0 b0 y1.toNatClampNeg y2) fun μ1 =>
  some ((2, (x1 + 1)), μ1)
noncomputable def fX12_laysEchoes_j53 (rf : Nat → Nat → Nat) (a0 : Nat) (x1 : Int32) (x2 : Int32) (y0 : Int32) (μ0 : o_Mem) : Option ((Nat × (Int32)) × o_Mem) :=
  o_ck (0 ≤ (x1).toInt ∧ (x1).toInt < 36) <|
  o_seq (o_wI μ0 (rf a0 25) x1.toNatClampNeg (-1)) fun μ1 =>
  if y0 = (-1) then (
    some ((2, (x1 + 1)), μ1))
  else (
    o_bd (fX12_actRow rf x2 (x1 - x1 / 6 * 6) μ1) fun r1 μ2 =>
    o_ck (0 ≤ ((r1 + 1)).toInt ∧ ((r1 + 1)).toInt < 3756) <|
    o_bd (fX12_handOf rf a0 x2 μ2) fun r2 μ3 =>
    o_bd (fX12_sober rf a0 x2 y0 (μ2.1 (rf a0 0) ((r1 + 1)).toNatClampNeg) r2 μ3) fun r3 μ4 =>
    if r3 = (-1) then (
      fX12_laysEchoes_j120 rf a0 x1 (rf a0 25) x1 (-2) μ4)
    else (
      fX12_laysEchoes_j120 rf a0 x1 (rf a0 25) x1 ((6 * y0) + r3) μ4))
noncomputable def fX12_laysEchoes_j52 (rf : Nat → Nat → Nat) (a0 : Nat) (x1 : Int32) (x2 : Int32) (μ0 : o_Mem) : Option ((Nat × (Int32)) × o_Mem) :=
  fX12_laysEchoes_j53 rf a0 x1 x2 (-1) μ0
noncomputable def fX12_laysEchoes_s2 (rf : Nat → Nat → Nat) (a0 : Nat) (τ2 : Int32) (μ0 : o_Mem) : Option ((Nat × (Int32)) × o_Mem) :=
  if 36 ≤ τ2 then (
    some ((127, 0), μ0))
  else (
    if (μ0.1 (rf a0 0) 2) ≤ (τ2 / 6) then (
      fX12_laysEchoes_j52 rf a0 τ2 (τ2 / 6) μ0)
    else (
      if (μ0.1 (rf a0 0) 0) ≤ (τ2 - τ2 / 6 * 6) then (
        fX12_laysEchoes_j52 rf a0 τ2 (τ2 / 6) μ0)
      else (
        o_bd (fX12_actRow rf (τ2 / 6) (τ2 - τ2 / 6 * 6) μ0) fun r1 μ1 =>
        o_ck (0 ≤ (r1).toInt ∧ (r1).toInt < 3756) <|
        fX12_laysEchoes_j53 rf a0 τ2 (τ2 / 6) (μ1.1 (rf a0 0) r1.toNatClampNeg) μ1)))
noncomputable def fX12_laysEchoes (rf : Nat → Nat → Nat) (a0 : Nat) (μ0 : o_Mem) : Option (Unit × o_Mem) :=
  o_bd (o_lp 2 (fX12_laysEchoes_s2 rf a0) o_fuel (0 : Int32) μ0) fun ex1 μ1 =>
  if ex1.1 = 127 then (
    some ((), μ1))
  else
    none
set_option maxRecDepth 20000 in
theorem dnX12_laysEchoes_j120 {X : o_Cx} (hX : o_ok X) {d : Nat} {a0 : Nat} {x1 : Int32} {b0 : Nat} {y1 : Int32} {y2 : Int32} {μ0 : o_Mem} {K : (Nat × (Int32)) → o_Mem → Prop} {Q : Option Value → o_Mem → Prop} (h0 : o_is X a0 (.inl 12)) (hb0 : o_is X b0 (.inr (0, 36))) (h : o_Post (fX12_laysEchoes_j120 (o_rf X) a0 x1 b0 y1 y2 μ0) K) (kh : ∀ (τ2 : Int32) (μ : o_Mem), K (2, τ2) μ → o_Ev X (d + 4) mX12_laysEchoes 2 [some (.ref (o_ad X a0)), some (.int τ2), none, none, none] [] μ Q) (k127 : ∀ (τ2 : Int32) (μ : o_Mem), K (127, τ2) μ → o_Ev X (d + 4) mX12_laysEchoes 127 [none, none, none, none, none] [] μ Q) : o_Ev X (d + 4) mX12_laysEchoes 120 [some (.ref (o_ad X a0)), some (.int x1), none, none, none] [.int y2, .int y1, .ref (o_ad X b0)] μ0 Q := by
  unfold fX12_laysEchoes_j120 at h
  have hc := o_ck_c h
  have h := o_ck_k h
  refine s_iastK hX hb0 hc rfl dX12_laysEchoes_120 (o_gen h (fun μ1 h => ?_))
  refine s_iinc (v := (x1 + 1)) dX12_laysEchoes_121 rfl rfl (Nat.le_of_ble_eq_true rfl) rfl ?_
  refine s_goto (tgt := 2) dX12_laysEchoes_124 rfl ?_
  refine s_mask [true, true, false, false, false] (L' := [some (.ref (o_ad X a0)), some (.int (x1 + 1)), none, none, none]) rfl ?_
  exact kh (x1 + 1) _ (o_ret h)
set_option maxRecDepth 20000 in
theorem dnX12_laysEchoes_j53 {X : o_Cx} (hX : o_ok X) {d : Nat} {a0 : Nat} {x1 : Int32} {x2 : Int32} {y0 : Int32} {μ0 : o_Mem} {K : (Nat × (Int32)) → o_Mem → Prop} {Q : Option Value → o_Mem → Prop} (h0 : o_is X a0 (.inl 12)) (h : o_Post (fX12_laysEchoes_j53 (o_rf X) a0 x1 x2 y0 μ0) K) (kh : ∀ (τ2 : Int32) (μ : o_Mem), K (2, τ2) μ → o_Ev X (d + 4) mX12_laysEchoes 2 [some (.ref (o_ad X a0)), some (.int τ2), none, none, none] [] μ Q) (k127 : ∀ (τ2 : Int32) (μ : o_Mem), K (127, τ2) μ → o_Ev X (d + 4) mX12_laysEchoes 127 [none, none, none, none, none] [] μ Q) : o_Ev X (d + 4) mX12_laysEchoes 53 [some (.ref (o_ad X a0)), some (.int x1), some (.int x2), none, none] [.int y0] μ0 Q := by
  unfold fX12_laysEchoes_j53 at h
  refine s_istore_n (i := 3) dX12_laysEchoes_53 rfl (Nat.le_of_ble_eq_true rfl) rfl ?_
  refine s_aload_n (i := 0) dX12_laysEchoes_54 rfl rfl ?_
  refine s_getR hX h0 flX12_50 rfl dX12_laysEchoes_55 (fun (g1 : o_is X (o_rf X a0 25) (.inr (0, 36))) => ?_)
  refine s_iload_n (i := 1) dX12_laysEchoes_58 rfl rfl ?_
  refine s_iconst dX12_laysEchoes_59 kI_m1 ?_
  have hc := o_ck_c h
  have h := o_ck_k h
  refine s_iastK hX g1 hc rfl dX12_laysEchoes_60 (o_gen h (fun μ1 h => ?_))
  refine s_iload_n (i := 3) dX12_laysEchoes_61 rfl rfl ?_
  refine s_iconst dX12_laysEchoes_62 kI_m1 ?_
  refine s_icmp_ne (tgt := 69) dX12_laysEchoes_63 rfl (fun c1 => ?_) (fun c1 => ?_)
  · have h := o_if_f c1 h
    refine s_aload_n (i := 0) dX12_laysEchoes_69 rfl rfl ?_
    refine s_iload_n (i := 2) dX12_laysEchoes_70 rfl rfl ?_
    refine s_iload_n (i := 3) dX12_laysEchoes_71 rfl rfl ?_
    refine s_aload_n (i := 0) dX12_laysEchoes_72 rfl rfl ?_
    refine s_getR hX h0 flX12_7 rfl dX12_laysEchoes_73 (fun (g2 : o_is X (o_rf X a0 0) (.inr (0, 3756))) => ?_)
    refine s_iload_n (i := 2) dX12_laysEchoes_76 rfl rfl ?_
    refine s_iload_n (i := 1) dX12_laysEchoes_77 rfl rfl ?_
    refine s_bipush dX12_laysEchoes_78 kB_6 ?_
    refine s_irem dX12_laysEchoes_80 (by decide) ?_
    refine s_callSi (C := mX12_actRow) (As := [.int x2, .int (x1 - x1 / 6 * 6)]) (rest := [.ref (o_ad X (o_rf X a0 0)), .int y0, .int x2, .ref (o_ad X a0)]) (L0 := [some (.int x2), some (.int (x1 - x1 / 6 * 6))]) clX12_302 dX12_laysEchoes_81 rfl rfl (Nat.le_of_ble_eq_true rfl) (Nat.le_of_ble_eq_true rfl) (dnX12_actRow hX  (o_bdp h)) (fun r1 μ2 h => ?_)
    refine s_iconst dX12_laysEchoes_84 kI_1 ?_
    refine s_iadd dX12_laysEchoes_85 ?_
    have hc := o_ck_c h
    have h := o_ck_k h
    refine s_ialdK g2 hc rfl dX12_laysEchoes_86 ?_
    refine s_aload_n (i := 0) dX12_laysEchoes_87 rfl rfl ?_
    refine s_iload_n (i := 2) dX12_laysEchoes_88 rfl rfl ?_
    refine s_callVi (C := mX12_handOf) (As := [.int x2]) (rest := [.int (μ2.1 (o_rf X a0 0) ((r1 + 1)).toNatClampNeg), .int y0, .int x2, .ref (o_ad X a0)]) (L0 := [some (.ref (o_ad X a0)), some (.int x2)]) hX h0 clX12_290 dX12_laysEchoes_89 rfl rfl (Nat.le_of_ble_eq_true rfl) (Nat.le_of_ble_eq_true rfl) (dnX12_handOf hX h0 (o_bdp h)) (fun r2 μ3 h => ?_)
    refine s_callVi (C := mX12_sober) (As := [.int x2, .int y0, .int (μ2.1 (o_rf X a0 0) ((r1 + 1)).toNatClampNeg), .int r2]) (rest := []) (L0 := [some (.ref (o_ad X a0)), some (.int x2), some (.int y0), some (.int (μ2.1 (o_rf X a0 0) ((r1 + 1)).toNatClampNeg)), some (.int r2)]) hX h0 clX12_325 dX12_laysEchoes_92 rfl rfl (Nat.le_of_ble_eq_true rfl) (Nat.le_of_ble_eq_true rfl) (dnX12_sober hX h0 (o_bdp h)) (fun r3 μ4 h => ?_)
    refine s_istore dX12_laysEchoes_95 (Nat.le_of_ble_eq_true rfl) rfl ?_
    refine s_aload_n (i := 0) dX12_laysEchoes_97 rfl rfl ?_
    refine s_getR hX h0 flX12_50 rfl dX12_laysEchoes_98 (fun (g3 : o_is X (o_rf X a0 25) (.inr (0, 36))) => ?_)
    refine s_iload_n (i := 1) dX12_laysEchoes_101 rfl rfl ?_
    refine s_iload dX12_laysEchoes_102 rfl ?_
    refine s_iconst dX12_laysEchoes_104 kI_m1 ?_
    refine s_icmp_ne (tgt := 113) dX12_laysEchoes_105 rfl (fun c1 => ?_) (fun c1 => ?_)
    · have h := o_if_f c1 h
      refine s_bipush dX12_laysEchoes_113 kB_6 ?_
      refine s_iload_n (i := 3) dX12_laysEchoes_115 rfl rfl ?_
      refine s_imul dX12_laysEchoes_116 ?_
      refine s_iload dX12_laysEchoes_117 rfl ?_
      refine s_iadd dX12_laysEchoes_119 ?_
      refine s_mask [true, true, false, false, false] (L' := [some (.ref (o_ad X a0)), some (.int x1), none, none, none]) rfl ?_
      exact dnX12_laysEchoes_j120 hX h0 g3 h kh k127
    · have h := o_if_t c1 h
      refine s_bipush dX12_laysEchoes_108 kB_m2 ?_
      refine s_goto (tgt := 120) dX12_laysEchoes_110 rfl ?_
      refine s_mask [true, true, false, false, false] (L' := [some (.ref (o_ad X a0)), some (.int x1), none, none, none]) rfl ?_
      exact dnX12_laysEchoes_j120 hX h0 g3 h kh k127
  · have h := o_if_t c1 h
    refine s_goto (tgt := 121) dX12_laysEchoes_66 rfl ?_
    refine s_iinc (v := (x1 + 1)) dX12_laysEchoes_121 rfl rfl (Nat.le_of_ble_eq_true rfl) rfl ?_
    refine s_goto (tgt := 2) dX12_laysEchoes_124 rfl ?_
    refine s_mask [true, true, false, false, false] (L' := [some (.ref (o_ad X a0)), some (.int (x1 + 1)), none, none, none]) rfl ?_
    exact kh (x1 + 1) _ (o_ret h)
set_option maxRecDepth 20000 in
theorem dnX12_laysEchoes_j52 {X : o_Cx} (hX : o_ok X) {d : Nat} {a0 : Nat} {x1 : Int32} {x2 : Int32} {μ0 : o_Mem} {K : (Nat × (Int32)) → o_Mem → Prop} {Q : Option Value → o_Mem → Prop} (h0 : o_is X a0 (.inl 12)) (h : o_Post (fX12_laysEchoes_j52 (o_rf X) a0 x1 x2 μ0) K) (kh : ∀ (τ2 : Int32) (μ : o_Mem), K (2, τ2) μ → o_Ev X (d + 4) mX12_laysEchoes 2 [some (.ref (o_ad X a0)), some (.int τ2), none, none, none] [] μ Q) (k127 : ∀ (τ2 : Int32) (μ : o_Mem), K (127, τ2) μ → o_Ev X (d + 4) mX12_laysEchoes 127 [none, none, none, none, none] [] μ Q) : o_Ev X (d + 4) mX12_laysEchoes 52 [some (.ref (o_ad X a0)), some (.int x1), some (.int x2), none, none] [] μ0 Q := by
  unfold fX12_laysEchoes_j52 at h
  refine s_iconst dX12_laysEchoes_52 kI_m1 ?_
  refine s_mask [true, true, true, false, false] (L' := [some (.ref (o_ad X a0)), some (.int x1), some (.int x2), none, none]) rfl ?_
  exact dnX12_laysEchoes_j53 hX h0 h kh k127
set_option maxRecDepth 20000 in
theorem dnX12_laysEchoes_s2 {X : o_Cx} (hX : o_ok X) {d : Nat} {a0 : Nat} {τ2 : Int32} {μ0 : o_Mem} {K : (Nat × (Int32)) → o_Mem → Prop} {Q : Option Value → o_Mem → Prop} (h0 : o_is X a0 (.inl 12)) (h : o_Post (fX12_laysEchoes_s2 (o_rf X) a0 τ2 μ0) K) (kh : ∀ (τ2 : Int32) (μ : o_Mem), K (2, τ2) μ → o_Ev X (d + 4) mX12_laysEchoes 2 [some (.ref (o_ad X a0)), some (.int τ2), none, none, none] [] μ Q) (k127 : ∀ (τ2 : Int32) (μ : o_Mem), K (127, τ2) μ → o_Ev X (d + 4) mX12_laysEchoes 127 [none, none, none, none, none] [] μ Q) : o_Ev X (d + 4) mX12_laysEchoes 2 [some (.ref (o_ad X a0)), some (.int τ2), none, none, none] [] μ0 Q := by
  unfold fX12_laysEchoes_s2 at h
  refine s_iload_n (i := 1) dX12_laysEchoes_2 rfl rfl ?_
  refine s_bipush dX12_laysEchoes_3 kB_36 ?_
  refine s_icmp_ge (tgt := 127) dX12_laysEchoes_5 rfl (fun c1 => ?_) (fun c1 => ?_)
  · have h := o_if_t c1 h
    refine s_mask [false, false, false, false, false] (L' := [none, none, none, none, none]) rfl ?_
    exact k127 0 _ (o_ret h)
  · have h := o_if_f c1 h
    refine s_iload_n (i := 1) dX12_laysEchoes_8 rfl rfl ?_
    refine s_bipush dX12_laysEchoes_9 kB_6 ?_
    refine s_idiv dX12_laysEchoes_11 (by decide) ?_
    refine s_istore_n (i := 2) dX12_laysEchoes_12 rfl (Nat.le_of_ble_eq_true rfl) rfl ?_
    refine s_iload_n (i := 2) dX12_laysEchoes_13 rfl rfl ?_
    refine s_aload_n (i := 0) dX12_laysEchoes_14 rfl rfl ?_
    refine s_getR hX h0 flX12_7 rfl dX12_laysEchoes_15 (fun (g1 : o_is X (o_rf X a0 0) (.inr (0, 3756))) => ?_)
    refine s_iconst dX12_laysEchoes_18 kI_2 ?_
    refine s_ialdK g1 ⟨by decide, by decide⟩ kN_2 dX12_laysEchoes_19 ?_
    refine s_icmp_ge (tgt := 52) dX12_laysEchoes_20 rfl (fun c1 => ?_) (fun c1 => ?_)
    · have h := o_if_t c1 h
      refine s_mask [true, true, true, false, false] (L' := [some (.ref (o_ad X a0)), some (.int τ2), some (.int (τ2 / 6)), none, none]) rfl ?_
      exact dnX12_laysEchoes_j52 hX h0 h kh k127
    · have h := o_if_f c1 h
      refine s_iload_n (i := 1) dX12_laysEchoes_23 rfl rfl ?_
      refine s_bipush dX12_laysEchoes_24 kB_6 ?_
      refine s_irem dX12_laysEchoes_26 (by decide) ?_
      refine s_aload_n (i := 0) dX12_laysEchoes_27 rfl rfl ?_
      refine s_getR hX h0 flX12_7 rfl dX12_laysEchoes_28 (fun (g2 : o_is X (o_rf X a0 0) (.inr (0, 3756))) => ?_)
      refine s_iconst dX12_laysEchoes_31 kI_0 ?_
      refine s_ialdK g2 ⟨by decide, by decide⟩ kN_0 dX12_laysEchoes_32 ?_
      refine s_icmp_ge (tgt := 52) dX12_laysEchoes_33 rfl (fun c1 => ?_) (fun c1 => ?_)
      · have h := o_if_t c1 h
        refine s_mask [true, true, true, false, false] (L' := [some (.ref (o_ad X a0)), some (.int τ2), some (.int (τ2 / 6)), none, none]) rfl ?_
        exact dnX12_laysEchoes_j52 hX h0 h kh k127
      · have h := o_if_f c1 h
        refine s_aload_n (i := 0) dX12_laysEchoes_36 rfl rfl ?_
        refine s_getR hX h0 flX12_7 rfl dX12_laysEchoes_37 (fun (g3 : o_is X (o_rf X a0 0) (.inr (0, 3756))) => ?_)
        refine s_iload_n (i := 2) dX12_laysEchoes_40 rfl rfl ?_
        refine s_iload_n (i := 1) dX12_laysEchoes_41 rfl rfl ?_
        refine s_bipush dX12_laysEchoes_42 kB_6 ?_
        refine s_irem dX12_laysEchoes_44 (by decide) ?_
        refine s_callSi (C := mX12_actRow) (As := [.int (τ2 / 6), .int (τ2 - τ2 / 6 * 6)]) (rest := [.ref (o_ad X (o_rf X a0 0))]) (L0 := [some (.int (τ2 / 6)), some (.int (τ2 - τ2 / 6 * 6))]) clX12_302 dX12_laysEchoes_45 rfl rfl (Nat.le_of_ble_eq_true rfl) (Nat.le_of_ble_eq_true rfl) (dnX12_actRow hX  (o_bdp h)) (fun r1 μ1 h => ?_)
        have hc := o_ck_c h
        have h := o_ck_k h
        refine s_ialdK g3 hc rfl dX12_laysEchoes_48 ?_
        refine s_goto (tgt := 53) dX12_laysEchoes_49 rfl ?_
        refine s_mask [true, true, true, false, false] (L' := [some (.ref (o_ad X a0)), some (.int τ2), some (.int (τ2 / 6)), none, none]) rfl ?_
        exact dnX12_laysEchoes_j53 hX h0 h kh k127
set_option maxRecDepth 20000 in
theorem dnX12_laysEchoes {X : o_Cx} (hX : o_ok X) {d : Nat} {a0 : Nat} {μ0 : o_Mem} {q : Unit → o_Mem → Prop} (h0 : o_is X a0 (.inl 12)) (h : o_Post (fX12_laysEchoes (o_rf X) a0 μ0) q) : o_Ev X (d + 4) mX12_laysEchoes 0 [some (.ref (o_ad X a0)), none, none, none, none] [] μ0 (o_QU q) := by
  unfold fX12_laysEchoes at h
  refine s_iconst dX12_laysEchoes_0 kI_0 ?_
  refine s_istore_n (i := 1) dX12_laysEchoes_1 rfl (Nat.le_of_ble_eq_true rfl) rfl ?_
  refine s_mask [true, true, false, false, false] (L' := [some (.ref (o_ad X a0)), some (.int 0), none, none, none]) rfl ?_
  refine o_lp_ev (fun τ2 => [some (.ref (o_ad X a0)), some (.int τ2), none, none, none]) (fun τ2 μ _K h kv ke2 => dnX12_laysEchoes_s2 hX h0 h kv (fun τ2 μ1 h => ?_)) o_fuel 0 μ0 (o_bdp h)
  · have h := o_if_t rfl (ke2 (127, τ2) μ1 (o_ne rfl) h)
    exact s_return rfl dX12_laysEchoes_127 ⟨rfl, o_ret h⟩
theorem dX12_echoFrom_0 : decode cX12_echoFrom 0 = .ok (.iload_n 1, 1) := by decide +kernel
theorem dX12_echoFrom_1 : decode cX12_echoFrom 1 = .ok (.istore_n 2, 1) := by decide +kernel
theorem dX12_echoFrom_2 : decode cX12_echoFrom 2 = .ok (.iconst 0, 1) := by decide +kernel
theorem dX12_echoFrom_3 : decode cX12_echoFrom 3 = .ok (.istore_n 3, 1) := by decide +kernel
theorem dX12_echoFrom_4 : decode cX12_echoFrom 4 = .ok (.iload_n 3, 1) := by decide +kernel
theorem dX12_echoFrom_5 : decode cX12_echoFrom 5 = .ok (.bipush 36, 2) := by decide +kernel
theorem dX12_echoFrom_7 : decode cX12_echoFrom 7 = .ok (.if_icmp .gt 34, 3) := by decide +kernel
theorem dX12_echoFrom_10 : decode cX12_echoFrom 10 = .ok (.iload_n 2, 1) := by decide +kernel
theorem dX12_echoFrom_11 : decode cX12_echoFrom 11 = .ok (.ifCond .ge 5, 3) := by decide +kernel
theorem dX12_echoFrom_14 : decode cX12_echoFrom 14 = .ok (.iload_n 3, 1) := by decide +kernel
theorem dX12_echoFrom_15 : decode cX12_echoFrom 15 = .ok (.ireturn, 1) := by decide +kernel
theorem dX12_echoFrom_16 : decode cX12_echoFrom 16 = .ok (.aload_n 0, 1) := by decide +kernel
theorem dX12_echoFrom_17 : decode cX12_echoFrom 17 = .ok (.getfield 50, 3) := by decide +kernel
theorem dX12_echoFrom_20 : decode cX12_echoFrom 20 = .ok (.iload_n 2, 1) := by decide +kernel
theorem dX12_echoFrom_21 : decode cX12_echoFrom 21 = .ok (.iaload, 1) := by decide +kernel
theorem dX12_echoFrom_22 : decode cX12_echoFrom 22 = .ok (.iconst (-1), 1) := by decide +kernel
theorem dX12_echoFrom_23 : decode cX12_echoFrom 23 = .ok (.if_icmp .ne 5, 3) := by decide +kernel
theorem dX12_echoFrom_26 : decode cX12_echoFrom 26 = .ok (.iload_n 3, 1) := by decide +kernel
theorem dX12_echoFrom_27 : decode cX12_echoFrom 27 = .ok (.ireturn, 1) := by decide +kernel
theorem dX12_echoFrom_28 : decode cX12_echoFrom 28 = .ok (.aload_n 0, 1) := by decide +kernel
theorem dX12_echoFrom_29 : decode cX12_echoFrom 29 = .ok (.getfield 50, 3) := by decide +kernel
theorem dX12_echoFrom_32 : decode cX12_echoFrom 32 = .ok (.iload_n 2, 1) := by decide +kernel
theorem dX12_echoFrom_33 : decode cX12_echoFrom 33 = .ok (.iaload, 1) := by decide +kernel
theorem dX12_echoFrom_34 : decode cX12_echoFrom 34 = .ok (.istore_n 2, 1) := by decide +kernel
theorem dX12_echoFrom_35 : decode cX12_echoFrom 35 = .ok (.iinc 3 1, 3) := by decide +kernel
theorem dX12_echoFrom_38 : decode cX12_echoFrom 38 = .ok (.goto (-34), 3) := by decide +kernel
theorem dX12_echoFrom_41 : decode cX12_echoFrom 41 = .ok (.iconst (-1), 1) := by decide +kernel
theorem dX12_echoFrom_42 : decode cX12_echoFrom 42 = .ok (.ireturn, 1) := by decide +kernel
noncomputable def fX12_echoFrom_s4 (rf : Nat → Nat → Nat) (a0 : Nat) (τ4 : Int32 × Int32) (μ0 : o_Mem) : Option ((Nat × (Int32 × Int32)) × o_Mem) :=
  if 36 < τ4.2 then (
    some ((41, (0, 0)), μ0))
  else (
    if 0 ≤ τ4.1 then (
      o_ck (0 ≤ (τ4.1).toInt ∧ (τ4.1).toInt < 36) <|
      if (μ0.1 (rf a0 25) (τ4.1).toNatClampNeg) = (-1) then (
        some ((26, (0, τ4.2)), μ0))
      else (
        o_ck (0 ≤ (τ4.1).toInt ∧ (τ4.1).toInt < 36) <|
        some ((4, ((μ0.1 (rf a0 25) (τ4.1).toNatClampNeg), (τ4.2 + 1))), μ0)))
    else (
      some ((14, (0, τ4.2)), μ0)))
noncomputable def fX12_echoFrom (rf : Nat → Nat → Nat) (a0 : Nat) (x1 : Int32) (μ0 : o_Mem) : Option (Int32 × o_Mem) :=
  o_bd (o_lp 4 (fX12_echoFrom_s4 rf a0) o_fuel (x1, 0) μ0) fun ex1 μ1 =>
  if ex1.1 = 14 then (
    some (ex1.2.2, μ1))
  else
  if ex1.1 = 26 then (
    some (ex1.2.2, μ1))
  else
  if ex1.1 = 41 then (
    some ((-1), μ1))
  else
    none
set_option maxRecDepth 20000 in
theorem dnX12_echoFrom_s4 {X : o_Cx} (hX : o_ok X) {d : Nat} {a0 : Nat} {τ4 : Int32 × Int32} {μ0 : o_Mem} {K : (Nat × (Int32 × Int32)) → o_Mem → Prop} {Q : Option Value → o_Mem → Prop} (h0 : o_is X a0 (.inl 12)) (h : o_Post (fX12_echoFrom_s4 (o_rf X) a0 τ4 μ0) K) (kh : ∀ (τ4 : Int32 × Int32) (μ : o_Mem), K (4, τ4) μ → o_Ev X (d + 0) mX12_echoFrom 4 [some (.ref (o_ad X a0)), none, some (.int τ4.1), some (.int τ4.2)] [] μ Q) (k14 : ∀ (τ4 : Int32 × Int32) (μ : o_Mem), K (14, τ4) μ → o_Ev X (d + 0) mX12_echoFrom 14 [none, none, none, some (.int τ4.2)] [] μ Q) (k26 : ∀ (τ4 : Int32 × Int32) (μ : o_Mem), K (26, τ4) μ → o_Ev X (d + 0) mX12_echoFrom 26 [none, none, none, some (.int τ4.2)] [] μ Q) (k41 : ∀ (τ4 : Int32 × Int32) (μ : o_Mem), K (41, τ4) μ → o_Ev X (d + 0) mX12_echoFrom 41 [none, none, none, none] [] μ Q) : o_Ev X (d + 0) mX12_echoFrom 4 [some (.ref (o_ad X a0)), none, some (.int τ4.1), some (.int τ4.2)] [] μ0 Q := by
  unfold fX12_echoFrom_s4 at h
  refine s_iload_n (i := 3) dX12_echoFrom_4 rfl rfl ?_
  refine s_bipush dX12_echoFrom_5 kB_36 ?_
  refine s_icmp_gt (tgt := 41) dX12_echoFrom_7 rfl (fun c1 => ?_) (fun c1 => ?_)
  · have h := o_if_t c1 h
    refine s_mask [false, false, false, false] (L' := [none, none, none, none]) rfl ?_
    exact k41 (0, 0) _ (o_ret h)
  · have h := o_if_f c1 h
    refine s_iload_n (i := 2) dX12_echoFrom_10 rfl rfl ?_
    refine s_if_ge (tgt := 16) dX12_echoFrom_11 rfl (fun c1 => ?_) (fun c1 => ?_)
    · have h := o_if_t c1 h
      refine s_aload_n (i := 0) dX12_echoFrom_16 rfl rfl ?_
      refine s_getR hX h0 flX12_50 rfl dX12_echoFrom_17 (fun (g1 : o_is X (o_rf X a0 25) (.inr (0, 36))) => ?_)
      refine s_iload_n (i := 2) dX12_echoFrom_20 rfl rfl ?_
      have hc := o_ck_c h
      have h := o_ck_k h
      refine s_ialdK g1 hc rfl dX12_echoFrom_21 ?_
      refine s_iconst dX12_echoFrom_22 kI_m1 ?_
      refine s_icmp_ne (tgt := 28) dX12_echoFrom_23 rfl (fun c1 => ?_) (fun c1 => ?_)
      · have h := o_if_f c1 h
        refine s_aload_n (i := 0) dX12_echoFrom_28 rfl rfl ?_
        refine s_getR hX h0 flX12_50 rfl dX12_echoFrom_29 (fun (g2 : o_is X (o_rf X a0 25) (.inr (0, 36))) => ?_)
        refine s_iload_n (i := 2) dX12_echoFrom_32 rfl rfl ?_
        have hc := o_ck_c h
        have h := o_ck_k h
        refine s_ialdK g2 hc rfl dX12_echoFrom_33 ?_
        refine s_istore_n (i := 2) dX12_echoFrom_34 rfl (Nat.le_of_ble_eq_true rfl) rfl ?_
        refine s_iinc (v := (τ4.2 + 1)) dX12_echoFrom_35 rfl rfl (Nat.le_of_ble_eq_true rfl) rfl ?_
        refine s_goto (tgt := 4) dX12_echoFrom_38 rfl ?_
        refine s_mask [true, false, true, true] (L' := [some (.ref (o_ad X a0)), none, some (.int (μ0.1 (o_rf X a0 25) (τ4.1).toNatClampNeg)), some (.int (τ4.2 + 1))]) rfl ?_
        exact kh ((μ0.1 (o_rf X a0 25) (τ4.1).toNatClampNeg), (τ4.2 + 1)) _ (o_ret h)
      · have h := o_if_t c1 h
        refine s_mask [false, false, false, true] (L' := [none, none, none, some (.int τ4.2)]) rfl ?_
        exact k26 (0, τ4.2) _ (o_ret h)
    · have h := o_if_f c1 h
      refine s_mask [false, false, false, true] (L' := [none, none, none, some (.int τ4.2)]) rfl ?_
      exact k14 (0, τ4.2) _ (o_ret h)
set_option maxRecDepth 20000 in
theorem dnX12_echoFrom {X : o_Cx} (hX : o_ok X) {d : Nat} {a0 : Nat} {x1 : Int32} {μ0 : o_Mem} {q : Int32 → o_Mem → Prop} (h0 : o_is X a0 (.inl 12)) (h : o_Post (fX12_echoFrom (o_rf X) a0 x1 μ0) q) : o_Ev X (d + 0) mX12_echoFrom 0 [some (.ref (o_ad X a0)), some (.int x1), none, none] [] μ0 (o_QI q) := by
  unfold fX12_echoFrom at h
  refine s_iload_n (i := 1) dX12_echoFrom_0 rfl rfl ?_
  refine s_istore_n (i := 2) dX12_echoFrom_1 rfl (Nat.le_of_ble_eq_true rfl) rfl ?_
  refine s_iconst dX12_echoFrom_2 kI_0 ?_
  refine s_istore_n (i := 3) dX12_echoFrom_3 rfl (Nat.le_of_ble_eq_true rfl) rfl ?_
  refine s_mask [true, false, true, true] (L' := [some (.ref (o_ad X a0)), none, some (.int x1), some (.int 0)]) rfl ?_
  refine o_lp_ev (fun τ4 => [some (.ref (o_ad X a0)), none, some (.int τ4.1), some (.int τ4.2)]) (fun τ4 μ _K h kv ke4 => dnX12_echoFrom_s4 hX h0 h kv (fun τ4 μ1 h => ?_) (fun τ4 μ1 h => ?_) (fun τ4 μ1 h => ?_)) o_fuel (x1, 0) μ0 (o_bdp h)
  · have h := o_if_t rfl (ke4 (14, τ4) μ1 (o_ne rfl) h)
    refine s_iload_n (i := 3) dX12_echoFrom_14 rfl rfl ?_
    exact s_ireturn rfl dX12_echoFrom_15 ⟨_, rfl, o_ret h⟩
  · have h := o_if_t rfl (o_if_f (o_ne rfl) (ke4 (26, τ4) μ1 (o_ne rfl) h))
    refine s_iload_n (i := 3) dX12_echoFrom_26 rfl rfl ?_
    exact s_ireturn rfl dX12_echoFrom_27 ⟨_, rfl, o_ret h⟩
  · have h := o_if_t rfl (o_if_f (o_ne rfl) (o_if_f (o_ne rfl) (ke4 (41, τ4) μ1 (o_ne rfl) h)))
    refine s_iconst dX12_echoFrom_41 kI_m1 ?_
    exact s_ireturn rfl dX12_echoFrom_42 ⟨_, rfl, o_ret h⟩
theorem dX12_ringFrom_0 : decode cX12_ringFrom 0 = .ok (.iload_n 1, 1) := by decide +kernel
theorem dX12_ringFrom_1 : decode cX12_ringFrom 1 = .ok (.istore_n 2, 1) := by decide +kernel
theorem dX12_ringFrom_2 : decode cX12_ringFrom 2 = .ok (.iconst 0, 1) := by decide +kernel
theorem dX12_ringFrom_3 : decode cX12_ringFrom 3 = .ok (.istore_n 3, 1) := by decide +kernel
theorem dX12_ringFrom_4 : decode cX12_ringFrom 4 = .ok (.iload_n 3, 1) := by decide +kernel
theorem dX12_ringFrom_5 : decode cX12_ringFrom 5 = .ok (.bipush 36, 2) := by decide +kernel
theorem dX12_ringFrom_7 : decode cX12_ringFrom 7 = .ok (.if_icmp .ge 16, 3) := by decide +kernel
theorem dX12_ringFrom_10 : decode cX12_ringFrom 10 = .ok (.aload_n 0, 1) := by decide +kernel
theorem dX12_ringFrom_11 : decode cX12_ringFrom 11 = .ok (.getfield 50, 3) := by decide +kernel
theorem dX12_ringFrom_14 : decode cX12_ringFrom 14 = .ok (.iload_n 2, 1) := by decide +kernel
theorem dX12_ringFrom_15 : decode cX12_ringFrom 15 = .ok (.iaload, 1) := by decide +kernel
theorem dX12_ringFrom_16 : decode cX12_ringFrom 16 = .ok (.istore_n 2, 1) := by decide +kernel
theorem dX12_ringFrom_17 : decode cX12_ringFrom 17 = .ok (.iinc 3 1, 3) := by decide +kernel
theorem dX12_ringFrom_20 : decode cX12_ringFrom 20 = .ok (.goto (-16), 3) := by decide +kernel
theorem dX12_ringFrom_23 : decode cX12_ringFrom 23 = .ok (.iconst 1, 1) := by decide +kernel
theorem dX12_ringFrom_24 : decode cX12_ringFrom 24 = .ok (.istore_n 3, 1) := by decide +kernel
theorem dX12_ringFrom_25 : decode cX12_ringFrom 25 = .ok (.aload_n 0, 1) := by decide +kernel
theorem dX12_ringFrom_26 : decode cX12_ringFrom 26 = .ok (.getfield 50, 3) := by decide +kernel
theorem dX12_ringFrom_29 : decode cX12_ringFrom 29 = .ok (.iload_n 2, 1) := by decide +kernel
theorem dX12_ringFrom_30 : decode cX12_ringFrom 30 = .ok (.iaload, 1) := by decide +kernel
theorem dX12_ringFrom_31 : decode cX12_ringFrom 31 = .ok (.istore 4, 2) := by decide +kernel
theorem dX12_ringFrom_33 : decode cX12_ringFrom 33 = .ok (.iload 4, 2) := by decide +kernel
theorem dX12_ringFrom_35 : decode cX12_ringFrom 35 = .ok (.iload_n 2, 1) := by decide +kernel
theorem dX12_ringFrom_36 : decode cX12_ringFrom 36 = .ok (.if_icmp .eq 18, 3) := by decide +kernel
theorem dX12_ringFrom_39 : decode cX12_ringFrom 39 = .ok (.iinc 3 1, 3) := by decide +kernel
theorem dX12_ringFrom_42 : decode cX12_ringFrom 42 = .ok (.aload_n 0, 1) := by decide +kernel
theorem dX12_ringFrom_43 : decode cX12_ringFrom 43 = .ok (.getfield 50, 3) := by decide +kernel
theorem dX12_ringFrom_46 : decode cX12_ringFrom 46 = .ok (.iload 4, 2) := by decide +kernel
theorem dX12_ringFrom_48 : decode cX12_ringFrom 48 = .ok (.iaload, 1) := by decide +kernel
theorem dX12_ringFrom_49 : decode cX12_ringFrom 49 = .ok (.istore 4, 2) := by decide +kernel
theorem dX12_ringFrom_51 : decode cX12_ringFrom 51 = .ok (.goto (-18), 3) := by decide +kernel
theorem dX12_ringFrom_54 : decode cX12_ringFrom 54 = .ok (.iload_n 3, 1) := by decide +kernel
theorem dX12_ringFrom_55 : decode cX12_ringFrom 55 = .ok (.ireturn, 1) := by decide +kernel
noncomputable def fX12_ringFrom_s4 (rf : Nat → Nat → Nat) (a0 : Nat) (τ4 : Int32 × Int32) (μ0 : o_Mem) : Option ((Nat × (Int32 × Int32)) × o_Mem) :=
  if 36 ≤ τ4.2 then (
    some ((23, (τ4.1, 0)), μ0))
  else (
    o_ck (0 ≤ (τ4.1).toInt ∧ (τ4.1).toInt < 36) <|
    some ((4, ((μ0.1 (rf a0 25) (τ4.1).toNatClampNeg), (τ4.2 + 1))), μ0))
noncomputable def fX12_ringFrom_s33 (rf : Nat → Nat → Nat) (a0 : Nat) (x2 : Int32) (τ33 : Int32 × Int32) (μ0 : o_Mem) : Option ((Nat × (Int32 × Int32)) × o_Mem) :=
  if τ33.2 = x2 then (
    some ((54, (τ33.1, 0)), μ0))
  else (
    o_ck (0 ≤ (τ33.2).toInt ∧ (τ33.2).toInt < 36) <|
    some ((33, ((τ33.1 + 1), (μ0.1 (rf a0 25) (τ33.2).toNatClampNeg))), μ0))
noncomputable def fX12_ringFrom (rf : Nat → Nat → Nat) (a0 : Nat) (x1 : Int32) (μ0 : o_Mem) : Option (Int32 × o_Mem) :=
  o_bd (o_lp 4 (fX12_ringFrom_s4 rf a0) o_fuel (x1, 0) μ0) fun ex1 μ1 =>
  if ex1.1 = 23 then (
    o_ck (0 ≤ (ex1.2.1).toInt ∧ (ex1.2.1).toInt < 36) <|
    o_bd (o_lp 33 (fX12_ringFrom_s33 rf a0 ex1.2.1) o_fuel (1, (μ1.1 (rf a0 25) (ex1.2.1).toNatClampNeg)) μ1) fun ex2 μ2 =>
    if ex2.1 = 54 then (
      some (ex2.2.1, μ2))
    else
      none)
  else
    none
set_option maxRecDepth 20000 in
theorem dnX12_ringFrom_s4 {X : o_Cx} (hX : o_ok X) {d : Nat} {a0 : Nat} {τ4 : Int32 × Int32} {μ0 : o_Mem} {K : (Nat × (Int32 × Int32)) → o_Mem → Prop} {Q : Option Value → o_Mem → Prop} (h0 : o_is X a0 (.inl 12)) (h : o_Post (fX12_ringFrom_s4 (o_rf X) a0 τ4 μ0) K) (kh : ∀ (τ4 : Int32 × Int32) (μ : o_Mem), K (4, τ4) μ → o_Ev X (d + 0) mX12_ringFrom 4 [some (.ref (o_ad X a0)), none, some (.int τ4.1), some (.int τ4.2), none] [] μ Q) (k23 : ∀ (τ4 : Int32 × Int32) (μ : o_Mem), K (23, τ4) μ → o_Ev X (d + 0) mX12_ringFrom 23 [some (.ref (o_ad X a0)), none, some (.int τ4.1), none, none] [] μ Q) : o_Ev X (d + 0) mX12_ringFrom 4 [some (.ref (o_ad X a0)), none, some (.int τ4.1), some (.int τ4.2), none] [] μ0 Q := by
  unfold fX12_ringFrom_s4 at h
  refine s_iload_n (i := 3) dX12_ringFrom_4 rfl rfl ?_
  refine s_bipush dX12_ringFrom_5 kB_36 ?_
  refine s_icmp_ge (tgt := 23) dX12_ringFrom_7 rfl (fun c1 => ?_) (fun c1 => ?_)
  · have h := o_if_t c1 h
    refine s_mask [true, false, true, false, false] (L' := [some (.ref (o_ad X a0)), none, some (.int τ4.1), none, none]) rfl ?_
    exact k23 (τ4.1, 0) _ (o_ret h)
  · have h := o_if_f c1 h
    refine s_aload_n (i := 0) dX12_ringFrom_10 rfl rfl ?_
    refine s_getR hX h0 flX12_50 rfl dX12_ringFrom_11 (fun (g1 : o_is X (o_rf X a0 25) (.inr (0, 36))) => ?_)
    refine s_iload_n (i := 2) dX12_ringFrom_14 rfl rfl ?_
    have hc := o_ck_c h
    have h := o_ck_k h
    refine s_ialdK g1 hc rfl dX12_ringFrom_15 ?_
    refine s_istore_n (i := 2) dX12_ringFrom_16 rfl (Nat.le_of_ble_eq_true rfl) rfl ?_
    refine s_iinc (v := (τ4.2 + 1)) dX12_ringFrom_17 rfl rfl (Nat.le_of_ble_eq_true rfl) rfl ?_
    refine s_goto (tgt := 4) dX12_ringFrom_20 rfl ?_
    refine s_mask [true, false, true, true, false] (L' := [some (.ref (o_ad X a0)), none, some (.int (μ0.1 (o_rf X a0 25) (τ4.1).toNatClampNeg)), some (.int (τ4.2 + 1)), none]) rfl ?_
    exact kh ((μ0.1 (o_rf X a0 25) (τ4.1).toNatClampNeg), (τ4.2 + 1)) _ (o_ret h)
set_option maxRecDepth 20000 in
theorem dnX12_ringFrom_s33 {X : o_Cx} (hX : o_ok X) {d : Nat} {a0 : Nat} {x2 : Int32} {τ33 : Int32 × Int32} {μ0 : o_Mem} {K : (Nat × (Int32 × Int32)) → o_Mem → Prop} {Q : Option Value → o_Mem → Prop} (h0 : o_is X a0 (.inl 12)) (h : o_Post (fX12_ringFrom_s33 (o_rf X) a0 x2 τ33 μ0) K) (kh : ∀ (τ33 : Int32 × Int32) (μ : o_Mem), K (33, τ33) μ → o_Ev X (d + 0) mX12_ringFrom 33 [some (.ref (o_ad X a0)), none, some (.int x2), some (.int τ33.1), some (.int τ33.2)] [] μ Q) (k54 : ∀ (τ33 : Int32 × Int32) (μ : o_Mem), K (54, τ33) μ → o_Ev X (d + 0) mX12_ringFrom 54 [none, none, none, some (.int τ33.1), none] [] μ Q) : o_Ev X (d + 0) mX12_ringFrom 33 [some (.ref (o_ad X a0)), none, some (.int x2), some (.int τ33.1), some (.int τ33.2)] [] μ0 Q := by
  unfold fX12_ringFrom_s33 at h
  refine s_iload dX12_ringFrom_33 rfl ?_
  refine s_iload_n (i := 2) dX12_ringFrom_35 rfl rfl ?_
  refine s_icmp_eq (tgt := 54) dX12_ringFrom_36 rfl (fun c1 => ?_) (fun c1 => ?_)
  · have h := o_if_t c1 h
    refine s_mask [false, false, false, true, false] (L' := [none, none, none, some (.int τ33.1), none]) rfl ?_
    exact k54 (τ33.1, 0) _ (o_ret h)
  · have h := o_if_f c1 h
    refine s_iinc (v := (τ33.1 + 1)) dX12_ringFrom_39 rfl rfl (Nat.le_of_ble_eq_true rfl) rfl ?_
    refine s_aload_n (i := 0) dX12_ringFrom_42 rfl rfl ?_
    refine s_getR hX h0 flX12_50 rfl dX12_ringFrom_43 (fun (g1 : o_is X (o_rf X a0 25) (.inr (0, 36))) => ?_)
    refine s_iload dX12_ringFrom_46 rfl ?_
    have hc := o_ck_c h
    have h := o_ck_k h
    refine s_ialdK g1 hc rfl dX12_ringFrom_48 ?_
    refine s_istore dX12_ringFrom_49 (Nat.le_of_ble_eq_true rfl) rfl ?_
    refine s_goto (tgt := 33) dX12_ringFrom_51 rfl ?_
    refine s_mask [true, false, true, true, true] (L' := [some (.ref (o_ad X a0)), none, some (.int x2), some (.int (τ33.1 + 1)), some (.int (μ0.1 (o_rf X a0 25) (τ33.2).toNatClampNeg))]) rfl ?_
    exact kh ((τ33.1 + 1), (μ0.1 (o_rf X a0 25) (τ33.2).toNatClampNeg)) _ (o_ret h)
set_option maxRecDepth 20000 in
theorem dnX12_ringFrom {X : o_Cx} (hX : o_ok X) {d : Nat} {a0 : Nat} {x1 : Int32} {μ0 : o_Mem} {q : Int32 → o_Mem → Prop} (h0 : o_is X a0 (.inl 12)) (h : o_Post (fX12_ringFrom (o_rf X) a0 x1 μ0) q) : o_Ev X (d + 0) mX12_ringFrom 0 [some (.ref (o_ad X a0)), some (.int x1), none, none, none] [] μ0 (o_QI q) := by
  unfold fX12_ringFrom at h
  refine s_iload_n (i := 1) dX12_ringFrom_0 rfl rfl ?_
  refine s_istore_n (i := 2) dX12_ringFrom_1 rfl (Nat.le_of_ble_eq_true rfl) rfl ?_
  refine s_iconst dX12_ringFrom_2 kI_0 ?_
  refine s_istore_n (i := 3) dX12_ringFrom_3 rfl (Nat.le_of_ble_eq_true rfl) rfl ?_
  refine s_mask [true, false, true, true, false] (L' := [some (.ref (o_ad X a0)), none, some (.int x1), some (.int 0), none]) rfl ?_
  refine o_lp_ev (fun τ4 => [some (.ref (o_ad X a0)), none, some (.int τ4.1), some (.int τ4.2), none]) (fun τ4 μ _K h kv ke4 => dnX12_ringFrom_s4 hX h0 h kv (fun τ4 μ1 h => ?_)) o_fuel (x1, 0) μ0 (o_bdp h)
  · have h := o_if_t rfl (ke4 (23, τ4) μ1 (o_ne rfl) h)
    refine s_iconst dX12_ringFrom_23 kI_1 ?_
    refine s_istore_n (i := 3) dX12_ringFrom_24 rfl (Nat.le_of_ble_eq_true rfl) rfl ?_
    refine s_aload_n (i := 0) dX12_ringFrom_25 rfl rfl ?_
    refine s_getR hX h0 flX12_50 rfl dX12_ringFrom_26 (fun (g1 : o_is X (o_rf X a0 25) (.inr (0, 36))) => ?_)
    refine s_iload_n (i := 2) dX12_ringFrom_29 rfl rfl ?_
    have hc := o_ck_c h
    have h := o_ck_k h
    refine s_ialdK g1 hc rfl dX12_ringFrom_30 ?_
    refine s_istore dX12_ringFrom_31 (Nat.le_of_ble_eq_true rfl) rfl ?_
    refine s_mask [true, false, true, true, true] (L' := [some (.ref (o_ad X a0)), none, some (.int τ4.1), some (.int 1), some (.int (μ1.1 (o_rf X a0 25) (τ4.1).toNatClampNeg))]) rfl ?_
    refine o_lp_ev (fun τ33 => [some (.ref (o_ad X a0)), none, some (.int τ4.1), some (.int τ33.1), some (.int τ33.2)]) (fun τ33 μ _K h kv ke33 => dnX12_ringFrom_s33 hX h0 h kv (fun τ33 μ2 h => ?_)) o_fuel (1, (μ1.1 (o_rf X a0 25) (τ4.1).toNatClampNeg)) μ1 (o_bdp h)
    · have h := o_if_t rfl (ke33 (54, τ33) μ2 (o_ne rfl) h)
      refine s_iload_n (i := 3) dX12_ringFrom_54 rfl rfl ?_
      exact s_ireturn rfl dX12_ringFrom_55 ⟨_, rfl, o_ret h⟩
theorem dX12_isCouple_0 : decode cX12_isCouple 0 = .ok (.aload_n 0, 1) := by decide +kernel
theorem dX12_isCouple_1 : decode cX12_isCouple 1 = .ok (.iload_n 1, 1) := by decide +kernel
theorem dX12_isCouple_2 : decode cX12_isCouple 2 = .ok (.invokevirtual 269, 3) := by decide +kernel
theorem dX12_isCouple_5 : decode cX12_isCouple 5 = .ok (.ifCond .eq 16, 3) := by decide +kernel
theorem dX12_isCouple_8 : decode cX12_isCouple 8 = .ok (.aload_n 0, 1) := by decide +kernel
theorem dX12_isCouple_9 : decode cX12_isCouple 9 = .ok (.iload_n 2, 1) := by decide +kernel
theorem dX12_isCouple_10 : decode cX12_isCouple 10 = .ok (.i2l, 1) := by decide +kernel
theorem dX12_isCouple_11 : decode cX12_isCouple 11 = .ok (.invokevirtual 284, 3) := by decide +kernel
theorem dX12_isCouple_14 : decode cX12_isCouple 14 = .ok (.ifCond .eq 7, 3) := by decide +kernel
theorem dX12_isCouple_17 : decode cX12_isCouple 17 = .ok (.iconst 1, 1) := by decide +kernel
theorem dX12_isCouple_18 : decode cX12_isCouple 18 = .ok (.goto 4, 3) := by decide +kernel
theorem dX12_isCouple_21 : decode cX12_isCouple 21 = .ok (.iconst 0, 1) := by decide +kernel
theorem dX12_isCouple_22 : decode cX12_isCouple 22 = .ok (.ireturn, 1) := by decide +kernel
noncomputable def fX12_isCouple (rf : Nat → Nat → Nat) (a0 : Nat) (x1 : Int32) (x2 : Int32) (μ0 : o_Mem) : Option (Int32 × o_Mem) :=
  o_bd (fX12_isPerson rf a0 x1 μ0) fun r1 μ1 =>
  if r1 = 0 then (
    some (0, μ1))
  else (
    o_bd (fX12_isStrike rf a0 x2.toInt64 μ1) fun r2 μ2 =>
    if r2 = 0 then (
      some (0, μ2))
    else (
      some (1, μ2)))
set_option maxRecDepth 20000 in
theorem dnX12_isCouple {X : o_Cx} (hX : o_ok X) {d : Nat} {a0 : Nat} {x1 : Int32} {x2 : Int32} {μ0 : o_Mem} {q : Int32 → o_Mem → Prop} (h0 : o_is X a0 (.inl 12)) (h : o_Post (fX12_isCouple (o_rf X) a0 x1 x2 μ0) q) : o_Ev X (d + 1) mX12_isCouple 0 [some (.ref (o_ad X a0)), some (.int x1), some (.int x2)] [] μ0 (o_QZ q) := by
  unfold fX12_isCouple at h
  refine s_aload_n (i := 0) dX12_isCouple_0 rfl rfl ?_
  refine s_iload_n (i := 1) dX12_isCouple_1 rfl rfl ?_
  refine s_callVz (C := mX12_isPerson) (As := [.int x1]) (rest := []) (L0 := [some (.ref (o_ad X a0)), some (.int x1)]) hX h0 clX12_269 dX12_isCouple_2 rfl rfl (Nat.le_of_ble_eq_true rfl) (Nat.le_of_ble_eq_true rfl) (dnX12_isPerson hX h0 (o_bdp h)) (fun r1 μ1 zr1 h => ?_)
  refine s_if_eq (tgt := 21) dX12_isCouple_5 rfl (fun c1 => ?_) (fun c1 => ?_)
  · have h := o_if_t c1 h
    refine s_iconst dX12_isCouple_21 kI_0 ?_
    exact s_zreturn rfl (Or.inl rfl) dX12_isCouple_22 ⟨_, rfl, (Or.inl rfl), o_ret h⟩
  · have h := o_if_f c1 h
    refine s_aload_n (i := 0) dX12_isCouple_8 rfl rfl ?_
    refine s_iload_n (i := 2) dX12_isCouple_9 rfl rfl ?_
    refine s_i2l dX12_isCouple_10 ?_
    refine s_callVz (C := mX12_isStrike) (As := [.long x2.toInt64]) (rest := []) (L0 := [some (.ref (o_ad X a0)), some (.long x2.toInt64), none]) hX h0 clX12_284 dX12_isCouple_11 rfl rfl (Nat.le_of_ble_eq_true rfl) (Nat.le_of_ble_eq_true rfl) (dnX12_isStrike hX h0 (o_bdp h)) (fun r2 μ2 zr2 h => ?_)
    refine s_if_eq (tgt := 21) dX12_isCouple_14 rfl (fun c1 => ?_) (fun c1 => ?_)
    · have h := o_if_t c1 h
      refine s_iconst dX12_isCouple_21 kI_0 ?_
      exact s_zreturn rfl (Or.inl rfl) dX12_isCouple_22 ⟨_, rfl, (Or.inl rfl), o_ret h⟩
    · have h := o_if_f c1 h
      refine s_iconst dX12_isCouple_17 kI_1 ?_
      refine s_goto (tgt := 22) dX12_isCouple_18 rfl ?_
      exact s_zreturn rfl (Or.inr rfl) dX12_isCouple_22 ⟨_, rfl, (Or.inr rfl), o_ret h⟩
theorem dX12_echo_0 : decode cX12_echo 0 = .ok (.aload_n 0, 1) := by decide +kernel
theorem dX12_echo_1 : decode cX12_echo 1 = .ok (.iload_n 1, 1) := by decide +kernel
theorem dX12_echo_2 : decode cX12_echo 2 = .ok (.iload_n 2, 1) := by decide +kernel
theorem dX12_echo_3 : decode cX12_echo 3 = .ok (.invokevirtual 377, 3) := by decide +kernel
theorem dX12_echo_6 : decode cX12_echo 6 = .ok (.ifCond .ne 9, 3) := by decide +kernel
theorem dX12_echo_9 : decode cX12_echo 9 = .ok (.aload_n 0, 1) := by decide +kernel
theorem dX12_echo_10 : decode cX12_echo 10 = .ok (.iconst 1, 1) := by decide +kernel
theorem dX12_echo_11 : decode cX12_echo 11 = .ok (.invokevirtual 87, 3) := by decide +kernel
theorem dX12_echo_14 : decode cX12_echo 14 = .ok (.ireturn, 1) := by decide +kernel
theorem dX12_echo_15 : decode cX12_echo 15 = .ok (.aload_n 0, 1) := by decide +kernel
theorem dX12_echo_16 : decode cX12_echo 16 = .ok (.invokevirtual 380, 3) := by decide +kernel
theorem dX12_echo_19 : decode cX12_echo 19 = .ok (.aload_n 0, 1) := by decide +kernel
theorem dX12_echo_20 : decode cX12_echo 20 = .ok (.bipush 6, 2) := by decide +kernel
theorem dX12_echo_22 : decode cX12_echo 22 = .ok (.iload_n 1, 1) := by decide +kernel
theorem dX12_echo_23 : decode cX12_echo 23 = .ok (.imul, 1) := by decide +kernel
theorem dX12_echo_24 : decode cX12_echo 24 = .ok (.iload_n 2, 1) := by decide +kernel
theorem dX12_echo_25 : decode cX12_echo 25 = .ok (.iadd, 1) := by decide +kernel
theorem dX12_echo_26 : decode cX12_echo 26 = .ok (.invokevirtual 383, 3) := by decide +kernel
theorem dX12_echo_29 : decode cX12_echo 29 = .ok (.istore_n 3, 1) := by decide +kernel
theorem dX12_echo_30 : decode cX12_echo 30 = .ok (.iload_n 3, 1) := by decide +kernel
theorem dX12_echo_31 : decode cX12_echo 31 = .ok (.iconst (-1), 1) := by decide +kernel
theorem dX12_echo_32 : decode cX12_echo 32 = .ok (.if_icmp .ne 12, 3) := by decide +kernel
theorem dX12_echo_35 : decode cX12_echo 35 = .ok (.aload_n 0, 1) := by decide +kernel
theorem dX12_echo_36 : decode cX12_echo 36 = .ok (.bipush 7, 2) := by decide +kernel
theorem dX12_echo_38 : decode cX12_echo 38 = .ok (.invokevirtual 87, 3) := by decide +kernel
theorem dX12_echo_41 : decode cX12_echo 41 = .ok (.goto 8, 3) := by decide +kernel
theorem dX12_echo_44 : decode cX12_echo 44 = .ok (.aload_n 0, 1) := by decide +kernel
theorem dX12_echo_45 : decode cX12_echo 45 = .ok (.iload_n 3, 1) := by decide +kernel
theorem dX12_echo_46 : decode cX12_echo 46 = .ok (.invokevirtual 91, 3) := by decide +kernel
theorem dX12_echo_49 : decode cX12_echo 49 = .ok (.ireturn, 1) := by decide +kernel
noncomputable def fX12_echo (rf : Nat → Nat → Nat) (a0 : Nat) (x1 : Int32) (x2 : Int32) (μ0 : o_Mem) : Option (Int32 × o_Mem) :=
  o_bd (fX12_isCouple rf a0 x1 x2 μ0) fun r1 μ1 =>
  if r1 = 0 then (
    o_bd (fX12_refuse rf a0 1 μ1) fun r5 μ6 =>
    some (r5, μ6))
  else (
    o_bd (fX12_laysEchoes rf a0 μ1) fun _u μ2 =>
    o_bd (fX12_echoFrom rf a0 ((6 * x1) + x2) μ2) fun r2 μ3 =>
    if r2 = (-1) then (
      o_bd (fX12_refuse rf a0 7 μ3) fun r4 μ5 =>
      some (r4, μ5))
    else (
      o_bd (fX12_gives rf a0 r2 μ3) fun r3 μ4 =>
      some (r3, μ4)))
set_option maxRecDepth 20000 in
theorem dnX12_echo {X : o_Cx} (hX : o_ok X) {d : Nat} {a0 : Nat} {x1 : Int32} {x2 : Int32} {μ0 : o_Mem} {q : Int32 → o_Mem → Prop} (h0 : o_is X a0 (.inl 12)) (h : o_Post (fX12_echo (o_rf X) a0 x1 x2 μ0) q) : o_Ev X (d + 5) mX12_echo 0 [some (.ref (o_ad X a0)), some (.int x1), some (.int x2), none] [] μ0 (o_QI q) := by
  unfold fX12_echo at h
  refine s_aload_n (i := 0) dX12_echo_0 rfl rfl ?_
  refine s_iload_n (i := 1) dX12_echo_1 rfl rfl ?_
  refine s_iload_n (i := 2) dX12_echo_2 rfl rfl ?_
  refine s_callVz (C := mX12_isCouple) (As := [.int x1, .int x2]) (rest := []) (L0 := [some (.ref (o_ad X a0)), some (.int x1), some (.int x2)]) hX h0 clX12_377 dX12_echo_3 rfl rfl (Nat.le_of_ble_eq_true rfl) (Nat.le_of_ble_eq_true rfl) (dnX12_isCouple hX h0 (o_bdp h)) (fun r1 μ1 zr1 h => ?_)
  refine s_if_ne (tgt := 15) dX12_echo_6 rfl (fun c1 => ?_) (fun c1 => ?_)
  · have h := o_if_f c1 h
    refine s_aload_n (i := 0) dX12_echo_15 rfl rfl ?_
    refine s_callVu (C := mX12_laysEchoes) (As := []) (rest := []) (L0 := [some (.ref (o_ad X a0)), none, none, none, none]) hX h0 clX12_380 dX12_echo_16 rfl rfl (Nat.le_of_ble_eq_true rfl) (Nat.le_of_ble_eq_true rfl) (dnX12_laysEchoes hX h0 (o_bdp h)) (fun _u μ2 h => ?_)
    refine s_aload_n (i := 0) dX12_echo_19 rfl rfl ?_
    refine s_bipush dX12_echo_20 kB_6 ?_
    refine s_iload_n (i := 1) dX12_echo_22 rfl rfl ?_
    refine s_imul dX12_echo_23 ?_
    refine s_iload_n (i := 2) dX12_echo_24 rfl rfl ?_
    refine s_iadd dX12_echo_25 ?_
    refine s_callVi (C := mX12_echoFrom) (As := [.int ((6 * x1) + x2)]) (rest := []) (L0 := [some (.ref (o_ad X a0)), some (.int ((6 * x1) + x2)), none, none]) hX h0 clX12_383 dX12_echo_26 rfl rfl (Nat.le_of_ble_eq_true rfl) (Nat.le_of_ble_eq_true rfl) (dnX12_echoFrom hX h0 (o_bdp h)) (fun r2 μ3 h => ?_)
    refine s_istore_n (i := 3) dX12_echo_29 rfl (Nat.le_of_ble_eq_true rfl) rfl ?_
    refine s_iload_n (i := 3) dX12_echo_30 rfl rfl ?_
    refine s_iconst dX12_echo_31 kI_m1 ?_
    refine s_icmp_ne (tgt := 44) dX12_echo_32 rfl (fun c1 => ?_) (fun c1 => ?_)
    · have h := o_if_f c1 h
      refine s_aload_n (i := 0) dX12_echo_44 rfl rfl ?_
      refine s_iload_n (i := 3) dX12_echo_45 rfl rfl ?_
      refine s_callVi (C := mX12_gives) (As := [.int r2]) (rest := []) (L0 := [some (.ref (o_ad X a0)), some (.int r2)]) hX h0 clX12_91 dX12_echo_46 rfl rfl (Nat.le_of_ble_eq_true rfl) (Nat.le_of_ble_eq_true rfl) (dnX12_gives hX h0 (o_bdp h)) (fun r3 μ4 h => ?_)
      exact s_ireturn rfl dX12_echo_49 ⟨_, rfl, o_ret h⟩
    · have h := o_if_t c1 h
      refine s_aload_n (i := 0) dX12_echo_35 rfl rfl ?_
      refine s_bipush dX12_echo_36 kB_7 ?_
      refine s_callVi (C := mX12_refuse) (As := [.int 7]) (rest := []) (L0 := [some (.ref (o_ad X a0)), some (.int 7)]) hX h0 clX12_87 dX12_echo_38 rfl rfl (Nat.le_of_ble_eq_true rfl) (Nat.le_of_ble_eq_true rfl) (dnX12_refuse hX h0 (o_bdp h)) (fun r4 μ5 h => ?_)
      refine s_goto (tgt := 49) dX12_echo_41 rfl ?_
      exact s_ireturn rfl dX12_echo_49 ⟨_, rfl, o_ret h⟩
  · have h := o_if_t c1 h
    refine s_aload_n (i := 0) dX12_echo_9 rfl rfl ?_
    refine s_iconst dX12_echo_10 kI_1 ?_
    refine s_callVi (C := mX12_refuse) (As := [.int 1]) (rest := []) (L0 := [some (.ref (o_ad X a0)), some (.int 1)]) hX h0 clX12_87 dX12_echo_11 rfl rfl (Nat.le_of_ble_eq_true rfl) (Nat.le_of_ble_eq_true rfl) (dnX12_refuse hX h0 (o_bdp h)) (fun r5 μ6 h => ?_)
    exact s_ireturn rfl dX12_echo_14 ⟨_, rfl, o_ret h⟩
theorem dX12_round_0 : decode cX12_round 0 = .ok (.aload_n 0, 1) := by decide +kernel
theorem dX12_round_1 : decode cX12_round 1 = .ok (.iload_n 1, 1) := by decide +kernel
theorem dX12_round_2 : decode cX12_round 2 = .ok (.iload_n 2, 1) := by decide +kernel
theorem dX12_round_3 : decode cX12_round 3 = .ok (.invokevirtual 377, 3) := by decide +kernel
theorem dX12_round_6 : decode cX12_round 6 = .ok (.ifCond .ne 9, 3) := by decide +kernel
theorem dX12_round_9 : decode cX12_round 9 = .ok (.aload_n 0, 1) := by decide +kernel
theorem dX12_round_10 : decode cX12_round 10 = .ok (.iconst 1, 1) := by decide +kernel
theorem dX12_round_11 : decode cX12_round 11 = .ok (.invokevirtual 87, 3) := by decide +kernel
theorem dX12_round_14 : decode cX12_round 14 = .ok (.ireturn, 1) := by decide +kernel
theorem dX12_round_15 : decode cX12_round 15 = .ok (.aload_n 0, 1) := by decide +kernel
theorem dX12_round_16 : decode cX12_round 16 = .ok (.invokevirtual 380, 3) := by decide +kernel
theorem dX12_round_19 : decode cX12_round 19 = .ok (.aload_n 0, 1) := by decide +kernel
theorem dX12_round_20 : decode cX12_round 20 = .ok (.bipush 6, 2) := by decide +kernel
theorem dX12_round_22 : decode cX12_round 22 = .ok (.iload_n 1, 1) := by decide +kernel
theorem dX12_round_23 : decode cX12_round 23 = .ok (.imul, 1) := by decide +kernel
theorem dX12_round_24 : decode cX12_round 24 = .ok (.iload_n 2, 1) := by decide +kernel
theorem dX12_round_25 : decode cX12_round 25 = .ok (.iadd, 1) := by decide +kernel
theorem dX12_round_26 : decode cX12_round 26 = .ok (.invokevirtual 383, 3) := by decide +kernel
theorem dX12_round_29 : decode cX12_round 29 = .ok (.iconst (-1), 1) := by decide +kernel
theorem dX12_round_30 : decode cX12_round 30 = .ok (.if_icmp .ne 20, 3) := by decide +kernel
theorem dX12_round_33 : decode cX12_round 33 = .ok (.aload_n 0, 1) := by decide +kernel
theorem dX12_round_34 : decode cX12_round 34 = .ok (.aload_n 0, 1) := by decide +kernel
theorem dX12_round_35 : decode cX12_round 35 = .ok (.bipush 6, 2) := by decide +kernel
theorem dX12_round_37 : decode cX12_round 37 = .ok (.iload_n 1, 1) := by decide +kernel
theorem dX12_round_38 : decode cX12_round 38 = .ok (.imul, 1) := by decide +kernel
theorem dX12_round_39 : decode cX12_round 39 = .ok (.iload_n 2, 1) := by decide +kernel
theorem dX12_round_40 : decode cX12_round 40 = .ok (.iadd, 1) := by decide +kernel
theorem dX12_round_41 : decode cX12_round 41 = .ok (.invokevirtual 386, 3) := by decide +kernel
theorem dX12_round_44 : decode cX12_round 44 = .ok (.invokevirtual 91, 3) := by decide +kernel
theorem dX12_round_47 : decode cX12_round 47 = .ok (.goto 9, 3) := by decide +kernel
theorem dX12_round_50 : decode cX12_round 50 = .ok (.aload_n 0, 1) := by decide +kernel
theorem dX12_round_51 : decode cX12_round 51 = .ok (.bipush 6, 2) := by decide +kernel
theorem dX12_round_53 : decode cX12_round 53 = .ok (.invokevirtual 87, 3) := by decide +kernel
theorem dX12_round_56 : decode cX12_round 56 = .ok (.ireturn, 1) := by decide +kernel
noncomputable def fX12_round (rf : Nat → Nat → Nat) (a0 : Nat) (x1 : Int32) (x2 : Int32) (μ0 : o_Mem) : Option (Int32 × o_Mem) :=
  o_bd (fX12_isCouple rf a0 x1 x2 μ0) fun r1 μ1 =>
  if r1 = 0 then (
    o_bd (fX12_refuse rf a0 1 μ1) fun r6 μ7 =>
    some (r6, μ7))
  else (
    o_bd (fX12_laysEchoes rf a0 μ1) fun _u μ2 =>
    o_bd (fX12_echoFrom rf a0 ((6 * x1) + x2) μ2) fun r2 μ3 =>
    if r2 = (-1) then (
      o_bd (fX12_ringFrom rf a0 ((6 * x1) + x2) μ3) fun r4 μ5 =>
      o_bd (fX12_gives rf a0 r4 μ5) fun r5 μ6 =>
      some (r5, μ6))
    else (
      o_bd (fX12_refuse rf a0 6 μ3) fun r3 μ4 =>
      some (r3, μ4)))
set_option maxRecDepth 20000 in
theorem dnX12_round {X : o_Cx} (hX : o_ok X) {d : Nat} {a0 : Nat} {x1 : Int32} {x2 : Int32} {μ0 : o_Mem} {q : Int32 → o_Mem → Prop} (h0 : o_is X a0 (.inl 12)) (h : o_Post (fX12_round (o_rf X) a0 x1 x2 μ0) q) : o_Ev X (d + 5) mX12_round 0 [some (.ref (o_ad X a0)), some (.int x1), some (.int x2)] [] μ0 (o_QI q) := by
  unfold fX12_round at h
  refine s_aload_n (i := 0) dX12_round_0 rfl rfl ?_
  refine s_iload_n (i := 1) dX12_round_1 rfl rfl ?_
  refine s_iload_n (i := 2) dX12_round_2 rfl rfl ?_
  refine s_callVz (C := mX12_isCouple) (As := [.int x1, .int x2]) (rest := []) (L0 := [some (.ref (o_ad X a0)), some (.int x1), some (.int x2)]) hX h0 clX12_377 dX12_round_3 rfl rfl (Nat.le_of_ble_eq_true rfl) (Nat.le_of_ble_eq_true rfl) (dnX12_isCouple hX h0 (o_bdp h)) (fun r1 μ1 zr1 h => ?_)
  refine s_if_ne (tgt := 15) dX12_round_6 rfl (fun c1 => ?_) (fun c1 => ?_)
  · have h := o_if_f c1 h
    refine s_aload_n (i := 0) dX12_round_15 rfl rfl ?_
    refine s_callVu (C := mX12_laysEchoes) (As := []) (rest := []) (L0 := [some (.ref (o_ad X a0)), none, none, none, none]) hX h0 clX12_380 dX12_round_16 rfl rfl (Nat.le_of_ble_eq_true rfl) (Nat.le_of_ble_eq_true rfl) (dnX12_laysEchoes hX h0 (o_bdp h)) (fun _u μ2 h => ?_)
    refine s_aload_n (i := 0) dX12_round_19 rfl rfl ?_
    refine s_bipush dX12_round_20 kB_6 ?_
    refine s_iload_n (i := 1) dX12_round_22 rfl rfl ?_
    refine s_imul dX12_round_23 ?_
    refine s_iload_n (i := 2) dX12_round_24 rfl rfl ?_
    refine s_iadd dX12_round_25 ?_
    refine s_callVi (C := mX12_echoFrom) (As := [.int ((6 * x1) + x2)]) (rest := []) (L0 := [some (.ref (o_ad X a0)), some (.int ((6 * x1) + x2)), none, none]) hX h0 clX12_383 dX12_round_26 rfl rfl (Nat.le_of_ble_eq_true rfl) (Nat.le_of_ble_eq_true rfl) (dnX12_echoFrom hX h0 (o_bdp h)) (fun r2 μ3 h => ?_)
    refine s_iconst dX12_round_29 kI_m1 ?_
    refine s_icmp_ne (tgt := 50) dX12_round_30 rfl (fun c1 => ?_) (fun c1 => ?_)
    · have h := o_if_f c1 h
      refine s_aload_n (i := 0) dX12_round_50 rfl rfl ?_
      refine s_bipush dX12_round_51 kB_6 ?_
      refine s_callVi (C := mX12_refuse) (As := [.int 6]) (rest := []) (L0 := [some (.ref (o_ad X a0)), some (.int 6)]) hX h0 clX12_87 dX12_round_53 rfl rfl (Nat.le_of_ble_eq_true rfl) (Nat.le_of_ble_eq_true rfl) (dnX12_refuse hX h0 (o_bdp h)) (fun r3 μ4 h => ?_)
      exact s_ireturn rfl dX12_round_56 ⟨_, rfl, o_ret h⟩
    · have h := o_if_t c1 h
      refine s_aload_n (i := 0) dX12_round_33 rfl rfl ?_
      refine s_aload_n (i := 0) dX12_round_34 rfl rfl ?_
      refine s_bipush dX12_round_35 kB_6 ?_
      refine s_iload_n (i := 1) dX12_round_37 rfl rfl ?_
      refine s_imul dX12_round_38 ?_
      refine s_iload_n (i := 2) dX12_round_39 rfl rfl ?_
      refine s_iadd dX12_round_40 ?_
      refine s_callVi (C := mX12_ringFrom) (As := [.int ((6 * x1) + x2)]) (rest := [.ref (o_ad X a0)]) (L0 := [some (.ref (o_ad X a0)), some (.int ((6 * x1) + x2)), none, none, none]) hX h0 clX12_386 dX12_round_41 rfl rfl (Nat.le_of_ble_eq_true rfl) (Nat.le_of_ble_eq_true rfl) (dnX12_ringFrom hX h0 (o_bdp h)) (fun r4 μ5 h => ?_)
      refine s_callVi (C := mX12_gives) (As := [.int r4]) (rest := []) (L0 := [some (.ref (o_ad X a0)), some (.int r4)]) hX h0 clX12_91 dX12_round_44 rfl rfl (Nat.le_of_ble_eq_true rfl) (Nat.le_of_ble_eq_true rfl) (dnX12_gives hX h0 (o_bdp h)) (fun r5 μ6 h => ?_)
      refine s_goto (tgt := 56) dX12_round_47 rfl ?_
      exact s_ireturn rfl dX12_round_56 ⟨_, rfl, o_ret h⟩
  · have h := o_if_t c1 h
    refine s_aload_n (i := 0) dX12_round_9 rfl rfl ?_
    refine s_iconst dX12_round_10 kI_1 ?_
    refine s_callVi (C := mX12_refuse) (As := [.int 1]) (rest := []) (L0 := [some (.ref (o_ad X a0)), some (.int 1)]) hX h0 clX12_87 dX12_round_11 rfl rfl (Nat.le_of_ble_eq_true rfl) (Nat.le_of_ble_eq_true rfl) (dnX12_refuse hX h0 (o_bdp h)) (fun r6 μ7 h => ?_)
    exact s_ireturn rfl dX12_round_14 ⟨_, rfl, o_ret h⟩
theorem dX12_comesBack_0 : decode cX12_comesBack 0 = .ok (.aload_n 0, 1) := by decide +kernel
theorem dX12_comesBack_1 : decode cX12_comesBack 1 = .ok (.getfield 50, 3) := by decide +kernel
theorem dX12_comesBack_4 : decode cX12_comesBack 4 = .ok (.iload_n 1, 1) := by decide +kernel
theorem dX12_comesBack_5 : decode cX12_comesBack 5 = .ok (.iaload, 1) := by decide +kernel
theorem dX12_comesBack_6 : decode cX12_comesBack 6 = .ok (.istore_n 2, 1) := by decide +kernel
theorem dX12_comesBack_7 : decode cX12_comesBack 7 = .ok (.iconst 0, 1) := by decide +kernel
theorem dX12_comesBack_8 : decode cX12_comesBack 8 = .ok (.istore_n 3, 1) := by decide +kernel
theorem dX12_comesBack_9 : decode cX12_comesBack 9 = .ok (.iload_n 3, 1) := by decide +kernel
theorem dX12_comesBack_10 : decode cX12_comesBack 10 = .ok (.bipush 36, 2) := by decide +kernel
theorem dX12_comesBack_12 : decode cX12_comesBack 12 = .ok (.if_icmp .ge 27, 3) := by decide +kernel
theorem dX12_comesBack_15 : decode cX12_comesBack 15 = .ok (.iload_n 2, 1) := by decide +kernel
theorem dX12_comesBack_16 : decode cX12_comesBack 16 = .ok (.ifCond .lt 23, 3) := by decide +kernel
theorem dX12_comesBack_19 : decode cX12_comesBack 19 = .ok (.iload_n 2, 1) := by decide +kernel
theorem dX12_comesBack_20 : decode cX12_comesBack 20 = .ok (.iload_n 1, 1) := by decide +kernel
theorem dX12_comesBack_21 : decode cX12_comesBack 21 = .ok (.if_icmp .ne 5, 3) := by decide +kernel
theorem dX12_comesBack_24 : decode cX12_comesBack 24 = .ok (.iconst 1, 1) := by decide +kernel
theorem dX12_comesBack_25 : decode cX12_comesBack 25 = .ok (.ireturn, 1) := by decide +kernel
theorem dX12_comesBack_26 : decode cX12_comesBack 26 = .ok (.aload_n 0, 1) := by decide +kernel
theorem dX12_comesBack_27 : decode cX12_comesBack 27 = .ok (.getfield 50, 3) := by decide +kernel
theorem dX12_comesBack_30 : decode cX12_comesBack 30 = .ok (.iload_n 2, 1) := by decide +kernel
theorem dX12_comesBack_31 : decode cX12_comesBack 31 = .ok (.iaload, 1) := by decide +kernel
theorem dX12_comesBack_32 : decode cX12_comesBack 32 = .ok (.istore_n 2, 1) := by decide +kernel
theorem dX12_comesBack_33 : decode cX12_comesBack 33 = .ok (.iinc 3 1, 3) := by decide +kernel
theorem dX12_comesBack_36 : decode cX12_comesBack 36 = .ok (.goto (-27), 3) := by decide +kernel
theorem dX12_comesBack_39 : decode cX12_comesBack 39 = .ok (.iconst 0, 1) := by decide +kernel
theorem dX12_comesBack_40 : decode cX12_comesBack 40 = .ok (.ireturn, 1) := by decide +kernel
noncomputable def fX12_comesBack_s9 (rf : Nat → Nat → Nat) (a0 : Nat) (x1 : Int32) (τ9 : Int32 × Int32) (μ0 : o_Mem) : Option ((Nat × (Int32 × Int32)) × o_Mem) :=
  if 36 ≤ τ9.2 then (
    some ((39, (0, 0)), μ0))
  else (
    if τ9.1 < 0 then (
      some ((39, (0, 0)), μ0))
    else (
      if τ9.1 = x1 then (
        some ((24, (0, 0)), μ0))
      else (
        o_ck (0 ≤ (τ9.1).toInt ∧ (τ9.1).toInt < 36) <|
        some ((9, ((μ0.1 (rf a0 25) (τ9.1).toNatClampNeg), (τ9.2 + 1))), μ0))))
noncomputable def fX12_comesBack (rf : Nat → Nat → Nat) (a0 : Nat) (x1 : Int32) (μ0 : o_Mem) : Option (Int32 × o_Mem) :=
  o_ck (0 ≤ (x1).toInt ∧ (x1).toInt < 36) <|
  o_bd (o_lp 9 (fX12_comesBack_s9 rf a0 x1) o_fuel ((μ0.1 (rf a0 25) x1.toNatClampNeg), 0) μ0) fun ex1 μ1 =>
  if ex1.1 = 24 then (
    some (1, μ1))
  else
  if ex1.1 = 39 then (
    some (0, μ1))
  else
    none
set_option maxRecDepth 20000 in
theorem dnX12_comesBack_s9 {X : o_Cx} (hX : o_ok X) {d : Nat} {a0 : Nat} {x1 : Int32} {τ9 : Int32 × Int32} {μ0 : o_Mem} {K : (Nat × (Int32 × Int32)) → o_Mem → Prop} {Q : Option Value → o_Mem → Prop} (h0 : o_is X a0 (.inl 12)) (h : o_Post (fX12_comesBack_s9 (o_rf X) a0 x1 τ9 μ0) K) (kh : ∀ (τ9 : Int32 × Int32) (μ : o_Mem), K (9, τ9) μ → o_Ev X (d + 0) mX12_comesBack 9 [some (.ref (o_ad X a0)), some (.int x1), some (.int τ9.1), some (.int τ9.2)] [] μ Q) (k24 : ∀ (τ9 : Int32 × Int32) (μ : o_Mem), K (24, τ9) μ → o_Ev X (d + 0) mX12_comesBack 24 [none, none, none, none] [] μ Q) (k39 : ∀ (τ9 : Int32 × Int32) (μ : o_Mem), K (39, τ9) μ → o_Ev X (d + 0) mX12_comesBack 39 [none, none, none, none] [] μ Q) : o_Ev X (d + 0) mX12_comesBack 9 [some (.ref (o_ad X a0)), some (.int x1), some (.int τ9.1), some (.int τ9.2)] [] μ0 Q := by
  unfold fX12_comesBack_s9 at h
  refine s_iload_n (i := 3) dX12_comesBack_9 rfl rfl ?_
  refine s_bipush dX12_comesBack_10 kB_36 ?_
  refine s_icmp_ge (tgt := 39) dX12_comesBack_12 rfl (fun c1 => ?_) (fun c1 => ?_)
  · have h := o_if_t c1 h
    refine s_mask [false, false, false, false] (L' := [none, none, none, none]) rfl ?_
    exact k39 (0, 0) _ (o_ret h)
  · have h := o_if_f c1 h
    refine s_iload_n (i := 2) dX12_comesBack_15 rfl rfl ?_
    refine s_if_lt (tgt := 39) dX12_comesBack_16 rfl (fun c1 => ?_) (fun c1 => ?_)
    · have h := o_if_t c1 h
      refine s_mask [false, false, false, false] (L' := [none, none, none, none]) rfl ?_
      exact k39 (0, 0) _ (o_ret h)
    · have h := o_if_f c1 h
      refine s_iload_n (i := 2) dX12_comesBack_19 rfl rfl ?_
      refine s_iload_n (i := 1) dX12_comesBack_20 rfl rfl ?_
      refine s_icmp_ne (tgt := 26) dX12_comesBack_21 rfl (fun c1 => ?_) (fun c1 => ?_)
      · have h := o_if_f c1 h
        refine s_aload_n (i := 0) dX12_comesBack_26 rfl rfl ?_
        refine s_getR hX h0 flX12_50 rfl dX12_comesBack_27 (fun (g1 : o_is X (o_rf X a0 25) (.inr (0, 36))) => ?_)
        refine s_iload_n (i := 2) dX12_comesBack_30 rfl rfl ?_
        have hc := o_ck_c h
        have h := o_ck_k h
        refine s_ialdK g1 hc rfl dX12_comesBack_31 ?_
        refine s_istore_n (i := 2) dX12_comesBack_32 rfl (Nat.le_of_ble_eq_true rfl) rfl ?_
        refine s_iinc (v := (τ9.2 + 1)) dX12_comesBack_33 rfl rfl (Nat.le_of_ble_eq_true rfl) rfl ?_
        refine s_goto (tgt := 9) dX12_comesBack_36 rfl ?_
        refine s_mask [true, true, true, true] (L' := [some (.ref (o_ad X a0)), some (.int x1), some (.int (μ0.1 (o_rf X a0 25) (τ9.1).toNatClampNeg)), some (.int (τ9.2 + 1))]) rfl ?_
        exact kh ((μ0.1 (o_rf X a0 25) (τ9.1).toNatClampNeg), (τ9.2 + 1)) _ (o_ret h)
      · have h := o_if_t c1 h
        refine s_mask [false, false, false, false] (L' := [none, none, none, none]) rfl ?_
        exact k24 (0, 0) _ (o_ret h)
set_option maxRecDepth 20000 in
theorem dnX12_comesBack {X : o_Cx} (hX : o_ok X) {d : Nat} {a0 : Nat} {x1 : Int32} {μ0 : o_Mem} {q : Int32 → o_Mem → Prop} (h0 : o_is X a0 (.inl 12)) (h : o_Post (fX12_comesBack (o_rf X) a0 x1 μ0) q) : o_Ev X (d + 0) mX12_comesBack 0 [some (.ref (o_ad X a0)), some (.int x1), none, none] [] μ0 (o_QZ q) := by
  unfold fX12_comesBack at h
  refine s_aload_n (i := 0) dX12_comesBack_0 rfl rfl ?_
  refine s_getR hX h0 flX12_50 rfl dX12_comesBack_1 (fun (g1 : o_is X (o_rf X a0 25) (.inr (0, 36))) => ?_)
  refine s_iload_n (i := 1) dX12_comesBack_4 rfl rfl ?_
  have hc := o_ck_c h
  have h := o_ck_k h
  refine s_ialdK g1 hc rfl dX12_comesBack_5 ?_
  refine s_istore_n (i := 2) dX12_comesBack_6 rfl (Nat.le_of_ble_eq_true rfl) rfl ?_
  refine s_iconst dX12_comesBack_7 kI_0 ?_
  refine s_istore_n (i := 3) dX12_comesBack_8 rfl (Nat.le_of_ble_eq_true rfl) rfl ?_
  refine s_mask [true, true, true, true] (L' := [some (.ref (o_ad X a0)), some (.int x1), some (.int (μ0.1 (o_rf X a0 25) x1.toNatClampNeg)), some (.int 0)]) rfl ?_
  refine o_lp_ev (fun τ9 => [some (.ref (o_ad X a0)), some (.int x1), some (.int τ9.1), some (.int τ9.2)]) (fun τ9 μ _K h kv ke9 => dnX12_comesBack_s9 hX h0 h kv (fun τ9 μ1 h => ?_) (fun τ9 μ1 h => ?_)) o_fuel ((μ0.1 (o_rf X a0 25) x1.toNatClampNeg), 0) μ0 (o_bdp h)
  · have h := o_if_t rfl (ke9 (24, τ9) μ1 (o_ne rfl) h)
    refine s_iconst dX12_comesBack_24 kI_1 ?_
    exact s_zreturn rfl (Or.inr rfl) dX12_comesBack_25 ⟨_, rfl, (Or.inr rfl), o_ret h⟩
  · have h := o_if_t rfl (o_if_f (o_ne rfl) (ke9 (39, τ9) μ1 (o_ne rfl) h))
    refine s_iconst dX12_comesBack_39 kI_0 ?_
    exact s_zreturn rfl (Or.inl rfl) dX12_comesBack_40 ⟨_, rfl, (Or.inl rfl), o_ret h⟩
theorem dX12_rings_0 : decode cX12_rings 0 = .ok (.aload_n 0, 1) := by decide +kernel
theorem dX12_rings_1 : decode cX12_rings 1 = .ok (.invokevirtual 380, 3) := by decide +kernel
theorem dX12_rings_4 : decode cX12_rings 4 = .ok (.iconst 0, 1) := by decide +kernel
theorem dX12_rings_5 : decode cX12_rings 5 = .ok (.istore_n 1, 1) := by decide +kernel
theorem dX12_rings_6 : decode cX12_rings 6 = .ok (.iconst 0, 1) := by decide +kernel
theorem dX12_rings_7 : decode cX12_rings 7 = .ok (.istore_n 2, 1) := by decide +kernel
theorem dX12_rings_8 : decode cX12_rings 8 = .ok (.iload_n 2, 1) := by decide +kernel
theorem dX12_rings_9 : decode cX12_rings 9 = .ok (.bipush 36, 2) := by decide +kernel
theorem dX12_rings_11 : decode cX12_rings 11 = .ok (.if_icmp .ge 25, 3) := by decide +kernel
theorem dX12_rings_14 : decode cX12_rings 14 = .ok (.iload_n 1, 1) := by decide +kernel
theorem dX12_rings_15 : decode cX12_rings 15 = .ok (.aload_n 0, 1) := by decide +kernel
theorem dX12_rings_16 : decode cX12_rings 16 = .ok (.iload_n 2, 1) := by decide +kernel
theorem dX12_rings_17 : decode cX12_rings 17 = .ok (.invokevirtual 389, 3) := by decide +kernel
theorem dX12_rings_20 : decode cX12_rings 20 = .ok (.ifCond .eq 7, 3) := by decide +kernel
theorem dX12_rings_23 : decode cX12_rings 23 = .ok (.iconst 1, 1) := by decide +kernel
theorem dX12_rings_24 : decode cX12_rings 24 = .ok (.goto 4, 3) := by decide +kernel
theorem dX12_rings_27 : decode cX12_rings 27 = .ok (.iconst 0, 1) := by decide +kernel
theorem dX12_rings_28 : decode cX12_rings 28 = .ok (.iadd, 1) := by decide +kernel
theorem dX12_rings_29 : decode cX12_rings 29 = .ok (.istore_n 1, 1) := by decide +kernel
theorem dX12_rings_30 : decode cX12_rings 30 = .ok (.iinc 2 1, 3) := by decide +kernel
theorem dX12_rings_33 : decode cX12_rings 33 = .ok (.goto (-25), 3) := by decide +kernel
theorem dX12_rings_36 : decode cX12_rings 36 = .ok (.aload_n 0, 1) := by decide +kernel
theorem dX12_rings_37 : decode cX12_rings 37 = .ok (.iload_n 1, 1) := by decide +kernel
theorem dX12_rings_38 : decode cX12_rings 38 = .ok (.invokevirtual 91, 3) := by decide +kernel
theorem dX12_rings_41 : decode cX12_rings 41 = .ok (.ireturn, 1) := by decide +kernel
noncomputable def fX12_rings_j28 (rf : Nat → Nat → Nat) (a0 : Nat) (x2 : Int32) (y0 : Int32) (y1 : Int32) (μ0 : o_Mem) : Option ((Nat × (Int32 × Int32)) × o_Mem) :=
  some ((8, ((y0 + y1), (x2 + 1))), μ0)
noncomputable def fX12_rings_s8 (rf : Nat → Nat → Nat) (a0 : Nat) (τ8 : Int32 × Int32) (μ0 : o_Mem) : Option ((Nat × (Int32 × Int32)) × o_Mem) :=
  if 36 ≤ τ8.2 then (
    some ((36, (τ8.1, 0)), μ0))
  else (
    o_bd (fX12_comesBack rf a0 τ8.2 μ0) fun r1 μ1 =>
    if r1 = 0 then (
      fX12_rings_j28 rf a0 τ8.2 τ8.1 0 μ1)
    else (
      fX12_rings_j28 rf a0 τ8.2 τ8.1 1 μ1))
noncomputable def fX12_rings (rf : Nat → Nat → Nat) (a0 : Nat) (μ0 : o_Mem) : Option (Int32 × o_Mem) :=
  o_bd (fX12_laysEchoes rf a0 μ0) fun _u μ1 =>
  o_bd (o_lp 8 (fX12_rings_s8 rf a0) o_fuel (0, 0) μ1) fun ex2 μ2 =>
  if ex2.1 = 36 then (
    o_bd (fX12_gives rf a0 ex2.2.1 μ2) fun r1 μ3 =>
    some (r1, μ3))
  else
    none
set_option maxRecDepth 20000 in
theorem dnX12_rings_j28 {X : o_Cx} (hX : o_ok X) {d : Nat} {a0 : Nat} {x2 : Int32} {y0 : Int32} {y1 : Int32} {μ0 : o_Mem} {K : (Nat × (Int32 × Int32)) → o_Mem → Prop} {Q : Option Value → o_Mem → Prop} (h0 : o_is X a0 (.inl 12)) (h : o_Post (fX12_rings_j28 (o_rf X) a0 x2 y0 y1 μ0) K) (kh : ∀ (τ8 : Int32 × Int32) (μ : o_Mem), K (8, τ8) μ → o_Ev X (d + 5) mX12_rings 8 [some (.ref (o_ad X a0)), some (.int τ8.1), some (.int τ8.2)] [] μ Q) (k36 : ∀ (τ8 : Int32 × Int32) (μ : o_Mem), K (36, τ8) μ → o_Ev X (d + 5) mX12_rings 36 [some (.ref (o_ad X a0)), some (.int τ8.1), none] [] μ Q) : o_Ev X (d + 5) mX12_rings 28 [some (.ref (o_ad X a0)), none, some (.int x2)] [.int y1, .int y0] μ0 Q := by
  unfold fX12_rings_j28 at h
  refine s_iadd dX12_rings_28 ?_
  refine s_istore_n (i := 1) dX12_rings_29 rfl (Nat.le_of_ble_eq_true rfl) rfl ?_
  refine s_iinc (v := (x2 + 1)) dX12_rings_30 rfl rfl (Nat.le_of_ble_eq_true rfl) rfl ?_
  refine s_goto (tgt := 8) dX12_rings_33 rfl ?_
  refine s_mask [true, true, true] (L' := [some (.ref (o_ad X a0)), some (.int (y0 + y1)), some (.int (x2 + 1))]) rfl ?_
  exact kh ((y0 + y1), (x2 + 1)) _ (o_ret h)
set_option maxRecDepth 20000 in
theorem dnX12_rings_s8 {X : o_Cx} (hX : o_ok X) {d : Nat} {a0 : Nat} {τ8 : Int32 × Int32} {μ0 : o_Mem} {K : (Nat × (Int32 × Int32)) → o_Mem → Prop} {Q : Option Value → o_Mem → Prop} (h0 : o_is X a0 (.inl 12)) (h : o_Post (fX12_rings_s8 (o_rf X) a0 τ8 μ0) K) (kh : ∀ (τ8 : Int32 × Int32) (μ : o_Mem), K (8, τ8) μ → o_Ev X (d + 5) mX12_rings 8 [some (.ref (o_ad X a0)), some (.int τ8.1), some (.int τ8.2)] [] μ Q) (k36 : ∀ (τ8 : Int32 × Int32) (μ : o_Mem), K (36, τ8) μ → o_Ev X (d + 5) mX12_rings 36 [some (.ref (o_ad X a0)), some (.int τ8.1), none] [] μ Q) : o_Ev X (d + 5) mX12_rings 8 [some (.ref (o_ad X a0)), some (.int τ8.1), some (.int τ8.2)] [] μ0 Q := by
  unfold fX12_rings_s8 at h
  refine s_iload_n (i := 2) dX12_rings_8 rfl rfl ?_
  refine s_bipush dX12_rings_9 kB_36 ?_
  refine s_icmp_ge (tgt := 36) dX12_rings_11 rfl (fun c1 => ?_) (fun c1 => ?_)
  · have h := o_if_t c1 h
    refine s_mask [true, true, false] (L' := [some (.ref (o_ad X a0)), some (.int τ8.1), none]) rfl ?_
    exact k36 (τ8.1, 0) _ (o_ret h)
  · have h := o_if_f c1 h
    refine s_iload_n (i := 1) dX12_rings_14 rfl rfl ?_
    refine s_aload_n (i := 0) dX12_rings_15 rfl rfl ?_
    refine s_iload_n (i := 2) dX12_rings_16 rfl rfl ?_
    refine s_callVz (C := mX12_comesBack) (As := [.int τ8.2]) (rest := [.int τ8.1]) (L0 := [some (.ref (o_ad X a0)), some (.int τ8.2), none, none]) hX h0 clX12_389 dX12_rings_17 rfl rfl (Nat.le_of_ble_eq_true rfl) (Nat.le_of_ble_eq_true rfl) (dnX12_comesBack hX h0 (o_bdp h)) (fun r1 μ1 zr1 h => ?_)
    refine s_if_eq (tgt := 27) dX12_rings_20 rfl (fun c1 => ?_) (fun c1 => ?_)
    · have h := o_if_t c1 h
      refine s_iconst dX12_rings_27 kI_0 ?_
      refine s_mask [true, false, true] (L' := [some (.ref (o_ad X a0)), none, some (.int τ8.2)]) rfl ?_
      exact dnX12_rings_j28 hX h0 h kh k36
    · have h := o_if_f c1 h
      refine s_iconst dX12_rings_23 kI_1 ?_
      refine s_goto (tgt := 28) dX12_rings_24 rfl ?_
      refine s_mask [true, false, true] (L' := [some (.ref (o_ad X a0)), none, some (.int τ8.2)]) rfl ?_
      exact dnX12_rings_j28 hX h0 h kh k36
set_option maxRecDepth 20000 in
theorem dnX12_rings {X : o_Cx} (hX : o_ok X) {d : Nat} {a0 : Nat} {μ0 : o_Mem} {q : Int32 → o_Mem → Prop} (h0 : o_is X a0 (.inl 12)) (h : o_Post (fX12_rings (o_rf X) a0 μ0) q) : o_Ev X (d + 5) mX12_rings 0 [some (.ref (o_ad X a0)), none, none] [] μ0 (o_QI q) := by
  unfold fX12_rings at h
  refine s_aload_n (i := 0) dX12_rings_0 rfl rfl ?_
  refine s_callVu (C := mX12_laysEchoes) (As := []) (rest := []) (L0 := [some (.ref (o_ad X a0)), none, none, none, none]) hX h0 clX12_380 dX12_rings_1 rfl rfl (Nat.le_of_ble_eq_true rfl) (Nat.le_of_ble_eq_true rfl) (dnX12_laysEchoes hX h0 (o_bdp h)) (fun _u μ1 h => ?_)
  refine s_iconst dX12_rings_4 kI_0 ?_
  refine s_istore_n (i := 1) dX12_rings_5 rfl (Nat.le_of_ble_eq_true rfl) rfl ?_
  refine s_iconst dX12_rings_6 kI_0 ?_
  refine s_istore_n (i := 2) dX12_rings_7 rfl (Nat.le_of_ble_eq_true rfl) rfl ?_
  refine s_mask [true, true, true] (L' := [some (.ref (o_ad X a0)), some (.int 0), some (.int 0)]) rfl ?_
  refine o_lp_ev (fun τ8 => [some (.ref (o_ad X a0)), some (.int τ8.1), some (.int τ8.2)]) (fun τ8 μ _K h kv ke8 => dnX12_rings_s8 hX h0 h kv (fun τ8 μ2 h => ?_)) o_fuel (0, 0) μ1 (o_bdp h)
  · have h := o_if_t rfl (ke8 (36, τ8) μ2 (o_ne rfl) h)
    refine s_aload_n (i := 0) dX12_rings_36 rfl rfl ?_
    refine s_iload_n (i := 1) dX12_rings_37 rfl rfl ?_
    refine s_callVi (C := mX12_gives) (As := [.int τ8.1]) (rest := []) (L0 := [some (.ref (o_ad X a0)), some (.int τ8.1)]) hX h0 clX12_91 dX12_rings_38 rfl rfl (Nat.le_of_ble_eq_true rfl) (Nat.le_of_ble_eq_true rfl) (dnX12_gives hX h0 (o_bdp h)) (fun r1 μ3 h => ?_)
    exact s_ireturn rfl dX12_rings_41 ⟨_, rfl, o_ret h⟩
theorem dX12_longest_0 : decode cX12_longest 0 = .ok (.aload_n 0, 1) := by decide +kernel
theorem dX12_longest_1 : decode cX12_longest 1 = .ok (.invokevirtual 380, 3) := by decide +kernel
theorem dX12_longest_4 : decode cX12_longest 4 = .ok (.iconst (-1), 1) := by decide +kernel
theorem dX12_longest_5 : decode cX12_longest 5 = .ok (.istore_n 1, 1) := by decide +kernel
theorem dX12_longest_6 : decode cX12_longest 6 = .ok (.iconst (-1), 1) := by decide +kernel
theorem dX12_longest_7 : decode cX12_longest 7 = .ok (.istore_n 2, 1) := by decide +kernel
theorem dX12_longest_8 : decode cX12_longest 8 = .ok (.iconst 0, 1) := by decide +kernel
theorem dX12_longest_9 : decode cX12_longest 9 = .ok (.istore_n 3, 1) := by decide +kernel
theorem dX12_longest_10 : decode cX12_longest 10 = .ok (.iload_n 3, 1) := by decide +kernel
theorem dX12_longest_11 : decode cX12_longest 11 = .ok (.bipush 36, 2) := by decide +kernel
theorem dX12_longest_13 : decode cX12_longest 13 = .ok (.if_icmp .ge 55, 3) := by decide +kernel
theorem dX12_longest_16 : decode cX12_longest 16 = .ok (.aload_n 0, 1) := by decide +kernel
theorem dX12_longest_17 : decode cX12_longest 17 = .ok (.iload_n 3, 1) := by decide +kernel
theorem dX12_longest_18 : decode cX12_longest 18 = .ok (.bipush 6, 2) := by decide +kernel
theorem dX12_longest_20 : decode cX12_longest 20 = .ok (.idiv, 1) := by decide +kernel
theorem dX12_longest_21 : decode cX12_longest 21 = .ok (.iload_n 3, 1) := by decide +kernel
theorem dX12_longest_22 : decode cX12_longest 22 = .ok (.bipush 6, 2) := by decide +kernel
theorem dX12_longest_24 : decode cX12_longest 24 = .ok (.irem, 1) := by decide +kernel
theorem dX12_longest_25 : decode cX12_longest 25 = .ok (.invokevirtual 377, 3) := by decide +kernel
theorem dX12_longest_28 : decode cX12_longest 28 = .ok (.ifCond .eq 34, 3) := by decide +kernel
theorem dX12_longest_31 : decode cX12_longest 31 = .ok (.aload_n 0, 1) := by decide +kernel
theorem dX12_longest_32 : decode cX12_longest 32 = .ok (.iload_n 3, 1) := by decide +kernel
theorem dX12_longest_33 : decode cX12_longest 33 = .ok (.invokevirtual 383, 3) := by decide +kernel
theorem dX12_longest_36 : decode cX12_longest 36 = .ok (.iload_n 2, 1) := by decide +kernel
theorem dX12_longest_37 : decode cX12_longest 37 = .ok (.if_icmp .gt 6, 3) := by decide +kernel
theorem dX12_longest_40 : decode cX12_longest 40 = .ok (.goto 22, 3) := by decide +kernel
theorem dX12_longest_43 : decode cX12_longest 43 = .ok (.aload_n 0, 1) := by decide +kernel
theorem dX12_longest_44 : decode cX12_longest 44 = .ok (.iload_n 3, 1) := by decide +kernel
theorem dX12_longest_45 : decode cX12_longest 45 = .ok (.invokevirtual 383, 3) := by decide +kernel
theorem dX12_longest_48 : decode cX12_longest 48 = .ok (.istore_n 2, 1) := by decide +kernel
theorem dX12_longest_49 : decode cX12_longest 49 = .ok (.bipush 10, 2) := by decide +kernel
theorem dX12_longest_51 : decode cX12_longest 51 = .ok (.iload_n 3, 1) := by decide +kernel
theorem dX12_longest_52 : decode cX12_longest 52 = .ok (.bipush 6, 2) := by decide +kernel
theorem dX12_longest_54 : decode cX12_longest 54 = .ok (.idiv, 1) := by decide +kernel
theorem dX12_longest_55 : decode cX12_longest 55 = .ok (.imul, 1) := by decide +kernel
theorem dX12_longest_56 : decode cX12_longest 56 = .ok (.iload_n 3, 1) := by decide +kernel
theorem dX12_longest_57 : decode cX12_longest 57 = .ok (.bipush 6, 2) := by decide +kernel
theorem dX12_longest_59 : decode cX12_longest 59 = .ok (.irem, 1) := by decide +kernel
theorem dX12_longest_60 : decode cX12_longest 60 = .ok (.iadd, 1) := by decide +kernel
theorem dX12_longest_61 : decode cX12_longest 61 = .ok (.istore_n 1, 1) := by decide +kernel
theorem dX12_longest_62 : decode cX12_longest 62 = .ok (.iinc 3 1, 3) := by decide +kernel
theorem dX12_longest_65 : decode cX12_longest 65 = .ok (.goto (-55), 3) := by decide +kernel
theorem dX12_longest_68 : decode cX12_longest 68 = .ok (.aload_n 0, 1) := by decide +kernel
theorem dX12_longest_69 : decode cX12_longest 69 = .ok (.iload_n 1, 1) := by decide +kernel
theorem dX12_longest_70 : decode cX12_longest 70 = .ok (.invokevirtual 299, 3) := by decide +kernel
theorem dX12_longest_73 : decode cX12_longest 73 = .ok (.ireturn, 1) := by decide +kernel
noncomputable def fX12_longest_s10 (rf : Nat → Nat → Nat) (a0 : Nat) (τ10 : Int32 × Int32 × Int32) (μ0 : o_Mem) : Option ((Nat × (Int32 × Int32 × Int32)) × o_Mem) :=
  if 36 ≤ τ10.2.2 then (
    some ((68, (τ10.1, 0, 0)), μ0))
  else (
    o_bd (fX12_isCouple rf a0 (τ10.2.2 / 6) (τ10.2.2 - τ10.2.2 / 6 * 6) μ0) fun r1 μ1 =>
    if r1 = 0 then (
      some ((10, (τ10.1, τ10.2.1, (τ10.2.2 + 1))), μ1))
    else (
      o_bd (fX12_echoFrom rf a0 τ10.2.2 μ1) fun r2 μ2 =>
      if τ10.2.1 < r2 then (
        o_bd (fX12_echoFrom rf a0 τ10.2.2 μ2) fun r3 μ3 =>
        some ((10, (((10 * (τ10.2.2 / 6)) + (τ10.2.2 - τ10.2.2 / 6 * 6)), r3, (τ10.2.2 + 1))), μ3))
      else (
        some ((10, (τ10.1, τ10.2.1, (τ10.2.2 + 1))), μ2))))
noncomputable def fX12_longest (rf : Nat → Nat → Nat) (a0 : Nat) (μ0 : o_Mem) : Option (Int32 × o_Mem) :=
  o_bd (fX12_laysEchoes rf a0 μ0) fun _u μ1 =>
  o_bd (o_lp 10 (fX12_longest_s10 rf a0) o_fuel ((-1), (-1), 0) μ1) fun ex2 μ2 =>
  if ex2.1 = 68 then (
    o_bd (fX12_orNone rf a0 ex2.2.1 μ2) fun r1 μ3 =>
    some (r1, μ3))
  else
    none
set_option maxRecDepth 20000 in
theorem dnX12_longest_s10 {X : o_Cx} (hX : o_ok X) {d : Nat} {a0 : Nat} {τ10 : Int32 × Int32 × Int32} {μ0 : o_Mem} {K : (Nat × (Int32 × Int32 × Int32)) → o_Mem → Prop} {Q : Option Value → o_Mem → Prop} (h0 : o_is X a0 (.inl 12)) (h : o_Post (fX12_longest_s10 (o_rf X) a0 τ10 μ0) K) (kh : ∀ (τ10 : Int32 × Int32 × Int32) (μ : o_Mem), K (10, τ10) μ → o_Ev X (d + 5) mX12_longest 10 [some (.ref (o_ad X a0)), some (.int τ10.1), some (.int τ10.2.1), some (.int τ10.2.2)] [] μ Q) (k68 : ∀ (τ10 : Int32 × Int32 × Int32) (μ : o_Mem), K (68, τ10) μ → o_Ev X (d + 5) mX12_longest 68 [some (.ref (o_ad X a0)), some (.int τ10.1), none, none] [] μ Q) : o_Ev X (d + 5) mX12_longest 10 [some (.ref (o_ad X a0)), some (.int τ10.1), some (.int τ10.2.1), some (.int τ10.2.2)] [] μ0 Q := by
  unfold fX12_longest_s10 at h
  refine s_iload_n (i := 3) dX12_longest_10 rfl rfl ?_
  refine s_bipush dX12_longest_11 kB_36 ?_
  refine s_icmp_ge (tgt := 68) dX12_longest_13 rfl (fun c1 => ?_) (fun c1 => ?_)
  · have h := o_if_t c1 h
    refine s_mask [true, true, false, false] (L' := [some (.ref (o_ad X a0)), some (.int τ10.1), none, none]) rfl ?_
    exact k68 (τ10.1, 0, 0) _ (o_ret h)
  · have h := o_if_f c1 h
    refine s_aload_n (i := 0) dX12_longest_16 rfl rfl ?_
    refine s_iload_n (i := 3) dX12_longest_17 rfl rfl ?_
    refine s_bipush dX12_longest_18 kB_6 ?_
    refine s_idiv dX12_longest_20 (by decide) ?_
    refine s_iload_n (i := 3) dX12_longest_21 rfl rfl ?_
    refine s_bipush dX12_longest_22 kB_6 ?_
    refine s_irem dX12_longest_24 (by decide) ?_
    refine s_callVz (C := mX12_isCouple) (As := [.int (τ10.2.2 / 6), .int (τ10.2.2 - τ10.2.2 / 6 * 6)]) (rest := []) (L0 := [some (.ref (o_ad X a0)), some (.int (τ10.2.2 / 6)), some (.int (τ10.2.2 - τ10.2.2 / 6 * 6))]) hX h0 clX12_377 dX12_longest_25 rfl rfl (Nat.le_of_ble_eq_true rfl) (Nat.le_of_ble_eq_true rfl) (dnX12_isCouple hX h0 (o_bdp h)) (fun r1 μ1 zr1 h => ?_)
    refine s_if_eq (tgt := 62) dX12_longest_28 rfl (fun c1 => ?_) (fun c1 => ?_)
    · have h := o_if_t c1 h
      refine s_iinc (v := (τ10.2.2 + 1)) dX12_longest_62 rfl rfl (Nat.le_of_ble_eq_true rfl) rfl ?_
      refine s_goto (tgt := 10) dX12_longest_65 rfl ?_
      refine s_mask [true, true, true, true] (L' := [some (.ref (o_ad X a0)), some (.int τ10.1), some (.int τ10.2.1), some (.int (τ10.2.2 + 1))]) rfl ?_
      exact kh (τ10.1, τ10.2.1, (τ10.2.2 + 1)) _ (o_ret h)
    · have h := o_if_f c1 h
      refine s_aload_n (i := 0) dX12_longest_31 rfl rfl ?_
      refine s_iload_n (i := 3) dX12_longest_32 rfl rfl ?_
      refine s_callVi (C := mX12_echoFrom) (As := [.int τ10.2.2]) (rest := []) (L0 := [some (.ref (o_ad X a0)), some (.int τ10.2.2), none, none]) hX h0 clX12_383 dX12_longest_33 rfl rfl (Nat.le_of_ble_eq_true rfl) (Nat.le_of_ble_eq_true rfl) (dnX12_echoFrom hX h0 (o_bdp h)) (fun r2 μ2 h => ?_)
      refine s_iload_n (i := 2) dX12_longest_36 rfl rfl ?_
      refine s_icmp_gt (tgt := 43) dX12_longest_37 rfl (fun c1 => ?_) (fun c1 => ?_)
      · have h := o_if_t c1 h
        refine s_aload_n (i := 0) dX12_longest_43 rfl rfl ?_
        refine s_iload_n (i := 3) dX12_longest_44 rfl rfl ?_
        refine s_callVi (C := mX12_echoFrom) (As := [.int τ10.2.2]) (rest := []) (L0 := [some (.ref (o_ad X a0)), some (.int τ10.2.2), none, none]) hX h0 clX12_383 dX12_longest_45 rfl rfl (Nat.le_of_ble_eq_true rfl) (Nat.le_of_ble_eq_true rfl) (dnX12_echoFrom hX h0 (o_bdp h)) (fun r3 μ3 h => ?_)
        refine s_istore_n (i := 2) dX12_longest_48 rfl (Nat.le_of_ble_eq_true rfl) rfl ?_
        refine s_bipush dX12_longest_49 kB_10 ?_
        refine s_iload_n (i := 3) dX12_longest_51 rfl rfl ?_
        refine s_bipush dX12_longest_52 kB_6 ?_
        refine s_idiv dX12_longest_54 (by decide) ?_
        refine s_imul dX12_longest_55 ?_
        refine s_iload_n (i := 3) dX12_longest_56 rfl rfl ?_
        refine s_bipush dX12_longest_57 kB_6 ?_
        refine s_irem dX12_longest_59 (by decide) ?_
        refine s_iadd dX12_longest_60 ?_
        refine s_istore_n (i := 1) dX12_longest_61 rfl (Nat.le_of_ble_eq_true rfl) rfl ?_
        refine s_iinc (v := (τ10.2.2 + 1)) dX12_longest_62 rfl rfl (Nat.le_of_ble_eq_true rfl) rfl ?_
        refine s_goto (tgt := 10) dX12_longest_65 rfl ?_
        refine s_mask [true, true, true, true] (L' := [some (.ref (o_ad X a0)), some (.int ((10 * (τ10.2.2 / 6)) + (τ10.2.2 - τ10.2.2 / 6 * 6))), some (.int r3), some (.int (τ10.2.2 + 1))]) rfl ?_
        exact kh (((10 * (τ10.2.2 / 6)) + (τ10.2.2 - τ10.2.2 / 6 * 6)), r3, (τ10.2.2 + 1)) _ (o_ret h)
      · have h := o_if_f c1 h
        refine s_goto (tgt := 62) dX12_longest_40 rfl ?_
        refine s_iinc (v := (τ10.2.2 + 1)) dX12_longest_62 rfl rfl (Nat.le_of_ble_eq_true rfl) rfl ?_
        refine s_goto (tgt := 10) dX12_longest_65 rfl ?_
        refine s_mask [true, true, true, true] (L' := [some (.ref (o_ad X a0)), some (.int τ10.1), some (.int τ10.2.1), some (.int (τ10.2.2 + 1))]) rfl ?_
        exact kh (τ10.1, τ10.2.1, (τ10.2.2 + 1)) _ (o_ret h)
set_option maxRecDepth 20000 in
theorem dnX12_longest {X : o_Cx} (hX : o_ok X) {d : Nat} {a0 : Nat} {μ0 : o_Mem} {q : Int32 → o_Mem → Prop} (h0 : o_is X a0 (.inl 12)) (h : o_Post (fX12_longest (o_rf X) a0 μ0) q) : o_Ev X (d + 5) mX12_longest 0 [some (.ref (o_ad X a0)), none, none, none] [] μ0 (o_QI q) := by
  unfold fX12_longest at h
  refine s_aload_n (i := 0) dX12_longest_0 rfl rfl ?_
  refine s_callVu (C := mX12_laysEchoes) (As := []) (rest := []) (L0 := [some (.ref (o_ad X a0)), none, none, none, none]) hX h0 clX12_380 dX12_longest_1 rfl rfl (Nat.le_of_ble_eq_true rfl) (Nat.le_of_ble_eq_true rfl) (dnX12_laysEchoes hX h0 (o_bdp h)) (fun _u μ1 h => ?_)
  refine s_iconst dX12_longest_4 kI_m1 ?_
  refine s_istore_n (i := 1) dX12_longest_5 rfl (Nat.le_of_ble_eq_true rfl) rfl ?_
  refine s_iconst dX12_longest_6 kI_m1 ?_
  refine s_istore_n (i := 2) dX12_longest_7 rfl (Nat.le_of_ble_eq_true rfl) rfl ?_
  refine s_iconst dX12_longest_8 kI_0 ?_
  refine s_istore_n (i := 3) dX12_longest_9 rfl (Nat.le_of_ble_eq_true rfl) rfl ?_
  refine s_mask [true, true, true, true] (L' := [some (.ref (o_ad X a0)), some (.int (-1)), some (.int (-1)), some (.int 0)]) rfl ?_
  refine o_lp_ev (fun τ10 => [some (.ref (o_ad X a0)), some (.int τ10.1), some (.int τ10.2.1), some (.int τ10.2.2)]) (fun τ10 μ _K h kv ke10 => dnX12_longest_s10 hX h0 h kv (fun τ10 μ2 h => ?_)) o_fuel ((-1), (-1), 0) μ1 (o_bdp h)
  · have h := o_if_t rfl (ke10 (68, τ10) μ2 (o_ne rfl) h)
    refine s_aload_n (i := 0) dX12_longest_68 rfl rfl ?_
    refine s_iload_n (i := 1) dX12_longest_69 rfl rfl ?_
    refine s_callVi (C := mX12_orNone) (As := [.int τ10.1]) (rest := []) (L0 := [some (.ref (o_ad X a0)), some (.int τ10.1)]) hX h0 clX12_299 dX12_longest_70 rfl rfl (Nat.le_of_ble_eq_true rfl) (Nat.le_of_ble_eq_true rfl) (dnX12_orNone hX h0 (o_bdp h)) (fun r1 μ3 h => ?_)
    exact s_ireturn rfl dX12_longest_73 ⟨_, rfl, o_ret h⟩
theorem dX12_wrongRow_0 : decode cX12_wrongRow 0 = .ok (.iload_n 1, 1) := by decide +kernel
theorem dX12_wrongRow_1 : decode cX12_wrongRow 1 = .ok (.invokestatic 98, 3) := by decide +kernel
theorem dX12_wrongRow_4 : decode cX12_wrongRow 4 = .ok (.ifCond .eq 15, 3) := by decide +kernel
theorem dX12_wrongRow_7 : decode cX12_wrongRow 7 = .ok (.iload_n 2, 1) := by decide +kernel
theorem dX12_wrongRow_8 : decode cX12_wrongRow 8 = .ok (.i2l, 1) := by decide +kernel
theorem dX12_wrongRow_9 : decode cX12_wrongRow 9 = .ok (.lconst 1, 1) := by decide +kernel
theorem dX12_wrongRow_10 : decode cX12_wrongRow 10 = .ok (.ldc2_w 392, 3) := by decide +kernel
theorem dX12_wrongRow_13 : decode cX12_wrongRow 13 = .ok (.invokestatic 348, 3) := by decide +kernel
theorem dX12_wrongRow_16 : decode cX12_wrongRow 16 = .ok (.ifCond .ne 5, 3) := by decide +kernel
theorem dX12_wrongRow_19 : decode cX12_wrongRow 19 = .ok (.iconst 1, 1) := by decide +kernel
theorem dX12_wrongRow_20 : decode cX12_wrongRow 20 = .ok (.ireturn, 1) := by decide +kernel
theorem dX12_wrongRow_21 : decode cX12_wrongRow 21 = .ok (.aload_n 0, 1) := by decide +kernel
theorem dX12_wrongRow_22 : decode cX12_wrongRow 22 = .ok (.getfield 24, 3) := by decide +kernel
theorem dX12_wrongRow_25 : decode cX12_wrongRow 25 = .ok (.iload_n 1, 1) := by decide +kernel
theorem dX12_wrongRow_26 : decode cX12_wrongRow 26 = .ok (.iaload, 1) := by decide +kernel
theorem dX12_wrongRow_27 : decode cX12_wrongRow 27 = .ok (.iconst (-1), 1) := by decide +kernel
theorem dX12_wrongRow_28 : decode cX12_wrongRow 28 = .ok (.if_icmp .ne 5, 3) := by decide +kernel
theorem dX12_wrongRow_31 : decode cX12_wrongRow 31 = .ok (.iconst 2, 1) := by decide +kernel
theorem dX12_wrongRow_32 : decode cX12_wrongRow 32 = .ok (.ireturn, 1) := by decide +kernel
theorem dX12_wrongRow_33 : decode cX12_wrongRow 33 = .ok (.aload_n 0, 1) := by decide +kernel
theorem dX12_wrongRow_34 : decode cX12_wrongRow 34 = .ok (.getfield 24, 3) := by decide +kernel
theorem dX12_wrongRow_37 : decode cX12_wrongRow 37 = .ok (.iload_n 1, 1) := by decide +kernel
theorem dX12_wrongRow_38 : decode cX12_wrongRow 38 = .ok (.iaload, 1) := by decide +kernel
theorem dX12_wrongRow_39 : decode cX12_wrongRow 39 = .ok (.iload_n 2, 1) := by decide +kernel
theorem dX12_wrongRow_40 : decode cX12_wrongRow 40 = .ok (.if_icmp .ge 5, 3) := by decide +kernel
theorem dX12_wrongRow_43 : decode cX12_wrongRow 43 = .ok (.iconst 3, 1) := by decide +kernel
theorem dX12_wrongRow_44 : decode cX12_wrongRow 44 = .ok (.ireturn, 1) := by decide +kernel
theorem dX12_wrongRow_45 : decode cX12_wrongRow 45 = .ok (.iconst 0, 1) := by decide +kernel
theorem dX12_wrongRow_46 : decode cX12_wrongRow 46 = .ok (.istore_n 3, 1) := by decide +kernel
theorem dX12_wrongRow_47 : decode cX12_wrongRow 47 = .ok (.iload_n 3, 1) := by decide +kernel
theorem dX12_wrongRow_48 : decode cX12_wrongRow 48 = .ok (.iload_n 2, 1) := by decide +kernel
theorem dX12_wrongRow_49 : decode cX12_wrongRow 49 = .ok (.if_icmp .ge 29, 3) := by decide +kernel
theorem dX12_wrongRow_52 : decode cX12_wrongRow 52 = .ok (.aload_n 0, 1) := by decide +kernel
theorem dX12_wrongRow_53 : decode cX12_wrongRow 53 = .ok (.aload_n 0, 1) := by decide +kernel
theorem dX12_wrongRow_54 : decode cX12_wrongRow 54 = .ok (.getfield 27, 3) := by decide +kernel
theorem dX12_wrongRow_57 : decode cX12_wrongRow 57 = .ok (.bipush 60, 2) := by decide +kernel
theorem dX12_wrongRow_59 : decode cX12_wrongRow 59 = .ok (.iload_n 1, 1) := by decide +kernel
theorem dX12_wrongRow_60 : decode cX12_wrongRow 60 = .ok (.imul, 1) := by decide +kernel
theorem dX12_wrongRow_61 : decode cX12_wrongRow 61 = .ok (.iload_n 3, 1) := by decide +kernel
theorem dX12_wrongRow_62 : decode cX12_wrongRow 62 = .ok (.iadd, 1) := by decide +kernel
theorem dX12_wrongRow_63 : decode cX12_wrongRow 63 = .ok (.laload, 1) := by decide +kernel
theorem dX12_wrongRow_64 : decode cX12_wrongRow 64 = .ok (.invokevirtual 284, 3) := by decide +kernel
theorem dX12_wrongRow_67 : decode cX12_wrongRow 67 = .ok (.ifCond .ne 5, 3) := by decide +kernel
theorem dX12_wrongRow_70 : decode cX12_wrongRow 70 = .ok (.iconst 5, 1) := by decide +kernel
theorem dX12_wrongRow_71 : decode cX12_wrongRow 71 = .ok (.ireturn, 1) := by decide +kernel
theorem dX12_wrongRow_72 : decode cX12_wrongRow 72 = .ok (.iinc 3 1, 3) := by decide +kernel
theorem dX12_wrongRow_75 : decode cX12_wrongRow 75 = .ok (.goto (-28), 3) := by decide +kernel
theorem dX12_wrongRow_78 : decode cX12_wrongRow 78 = .ok (.iconst 0, 1) := by decide +kernel
theorem dX12_wrongRow_79 : decode cX12_wrongRow 79 = .ok (.ireturn, 1) := by decide +kernel
noncomputable def fX12_wrongRow_s47 (rf : Nat → Nat → Nat) (a0 : Nat) (x1 : Int32) (x2 : Int32) (τ47 : Int32) (μ0 : o_Mem) : Option ((Nat × (Int32)) × o_Mem) :=
  if x2 ≤ τ47 then (
    some ((78, 0), μ0))
  else (
    o_ck (0 ≤ (((60 * x1) + τ47)).toInt ∧ (((60 * x1) + τ47)).toInt < 240) <|
    o_bd (fX12_isStrike rf a0 (μ0.2 (rf a0 7) (((60 * x1) + τ47)).toNatClampNeg) μ0) fun r1 μ1 =>
    if r1 = 0 then (
      some ((70, 0), μ1))
    else (
      some ((47, (τ47 + 1)), μ1)))
noncomputable def fX12_wrongRow (rf : Nat → Nat → Nat) (a0 : Nat) (x1 : Int32) (x2 : Int32) (μ0 : o_Mem) : Option (Int32 × o_Mem) :=
  o_bd (fX12_isTray rf x1 μ0) fun r1 μ1 =>
  if r1 = 0 then (
    some (1, μ1))
  else (
    o_bd (fX12_isFrom rf x2.toInt64 (1 : Int64) (12 : Int64) μ1) fun r2 μ2 =>
    if r2 = 0 then (
      some (1, μ2))
    else (
      o_ck (0 ≤ (x1).toInt ∧ (x1).toInt < 4) <|
      if (μ2.1 (rf a0 6) x1.toNatClampNeg) = (-1) then (
        some (2, μ2))
      else (
        o_ck (0 ≤ (x1).toInt ∧ (x1).toInt < 4) <|
        if x2 ≤ (μ2.1 (rf a0 6) x1.toNatClampNeg) then (
          o_bd (o_lp 47 (fX12_wrongRow_s47 rf a0 x1 x2) o_fuel (0 : Int32) μ2) fun ex3 μ3 =>
          if ex3.1 = 70 then (
            some (5, μ3))
          else
          if ex3.1 = 78 then (
            some (0, μ3))
          else
            none)
        else (
          some (3, μ2)))))
set_option maxRecDepth 20000 in
theorem dnX12_wrongRow_s47 {X : o_Cx} (hX : o_ok X) {d : Nat} {a0 : Nat} {x1 : Int32} {x2 : Int32} {τ47 : Int32} {μ0 : o_Mem} {K : (Nat × (Int32)) → o_Mem → Prop} {Q : Option Value → o_Mem → Prop} (h0 : o_is X a0 (.inl 12)) (h : o_Post (fX12_wrongRow_s47 (o_rf X) a0 x1 x2 τ47 μ0) K) (kh : ∀ (τ47 : Int32) (μ : o_Mem), K (47, τ47) μ → o_Ev X (d + 1) mX12_wrongRow 47 [some (.ref (o_ad X a0)), some (.int x1), some (.int x2), some (.int τ47)] [] μ Q) (k70 : ∀ (τ47 : Int32) (μ : o_Mem), K (70, τ47) μ → o_Ev X (d + 1) mX12_wrongRow 70 [none, none, none, none] [] μ Q) (k78 : ∀ (τ47 : Int32) (μ : o_Mem), K (78, τ47) μ → o_Ev X (d + 1) mX12_wrongRow 78 [none, none, none, none] [] μ Q) : o_Ev X (d + 1) mX12_wrongRow 47 [some (.ref (o_ad X a0)), some (.int x1), some (.int x2), some (.int τ47)] [] μ0 Q := by
  unfold fX12_wrongRow_s47 at h
  refine s_iload_n (i := 3) dX12_wrongRow_47 rfl rfl ?_
  refine s_iload_n (i := 2) dX12_wrongRow_48 rfl rfl ?_
  refine s_icmp_ge (tgt := 78) dX12_wrongRow_49 rfl (fun c1 => ?_) (fun c1 => ?_)
  · have h := o_if_t c1 h
    refine s_mask [false, false, false, false] (L' := [none, none, none, none]) rfl ?_
    exact k78 0 _ (o_ret h)
  · have h := o_if_f c1 h
    refine s_aload_n (i := 0) dX12_wrongRow_52 rfl rfl ?_
    refine s_aload_n (i := 0) dX12_wrongRow_53 rfl rfl ?_
    refine s_getR hX h0 flX12_27 rfl dX12_wrongRow_54 (fun (g1 : o_is X (o_rf X a0 7) (.inr (2, 240))) => ?_)
    refine s_bipush dX12_wrongRow_57 kB_60 ?_
    refine s_iload_n (i := 1) dX12_wrongRow_59 rfl rfl ?_
    refine s_imul dX12_wrongRow_60 ?_
    refine s_iload_n (i := 3) dX12_wrongRow_61 rfl rfl ?_
    refine s_iadd dX12_wrongRow_62 ?_
    have hc := o_ck_c h
    have h := o_ck_k h
    refine s_laldK g1 hc rfl dX12_wrongRow_63 ?_
    refine s_callVz (C := mX12_isStrike) (As := [.long (μ0.2 (o_rf X a0 7) (((60 * x1) + τ47)).toNatClampNeg)]) (rest := []) (L0 := [some (.ref (o_ad X a0)), some (.long (μ0.2 (o_rf X a0 7) (((60 * x1) + τ47)).toNatClampNeg)), none]) hX h0 clX12_284 dX12_wrongRow_64 rfl rfl (Nat.le_of_ble_eq_true rfl) (Nat.le_of_ble_eq_true rfl) (dnX12_isStrike hX h0 (o_bdp h)) (fun r1 μ1 zr1 h => ?_)
    refine s_if_ne (tgt := 72) dX12_wrongRow_67 rfl (fun c1 => ?_) (fun c1 => ?_)
    · have h := o_if_f c1 h
      refine s_iinc (v := (τ47 + 1)) dX12_wrongRow_72 rfl rfl (Nat.le_of_ble_eq_true rfl) rfl ?_
      refine s_goto (tgt := 47) dX12_wrongRow_75 rfl ?_
      refine s_mask [true, true, true, true] (L' := [some (.ref (o_ad X a0)), some (.int x1), some (.int x2), some (.int (τ47 + 1))]) rfl ?_
      exact kh (τ47 + 1) _ (o_ret h)
    · have h := o_if_t c1 h
      refine s_mask [false, false, false, false] (L' := [none, none, none, none]) rfl ?_
      exact k70 0 _ (o_ret h)
set_option maxRecDepth 20000 in
theorem dnX12_wrongRow {X : o_Cx} (hX : o_ok X) {d : Nat} {a0 : Nat} {x1 : Int32} {x2 : Int32} {μ0 : o_Mem} {q : Int32 → o_Mem → Prop} (h0 : o_is X a0 (.inl 12)) (h : o_Post (fX12_wrongRow (o_rf X) a0 x1 x2 μ0) q) : o_Ev X (d + 1) mX12_wrongRow 0 [some (.ref (o_ad X a0)), some (.int x1), some (.int x2), none] [] μ0 (o_QI q) := by
  unfold fX12_wrongRow at h
  refine s_iload_n (i := 1) dX12_wrongRow_0 rfl rfl ?_
  refine s_callSz (C := mX12_isTray) (As := [.int x1]) (rest := []) (L0 := [some (.int x1)]) clX12_98 dX12_wrongRow_1 rfl rfl (Nat.le_of_ble_eq_true rfl) (Nat.le_of_ble_eq_true rfl) (dnX12_isTray hX  (o_bdp h)) (fun r1 μ1 zr1 h => ?_)
  refine s_if_eq (tgt := 19) dX12_wrongRow_4 rfl (fun c1 => ?_) (fun c1 => ?_)
  · have h := o_if_t c1 h
    refine s_iconst dX12_wrongRow_19 kI_1 ?_
    exact s_ireturn rfl dX12_wrongRow_20 ⟨_, rfl, o_ret h⟩
  · have h := o_if_f c1 h
    refine s_iload_n (i := 2) dX12_wrongRow_7 rfl rfl ?_
    refine s_i2l dX12_wrongRow_8 ?_
    refine s_lconst (v := 1) dX12_wrongRow_9 rfl ?_
    refine s_ldc2 (v := 12) w_9_1 dX12_wrongRow_10 ?_
    refine s_callSz (C := mX12_isFrom) (As := [.long x2.toInt64, .long (1 : Int64), .long (12 : Int64)]) (rest := []) (L0 := [some (.long x2.toInt64), none, some (.long (1 : Int64)), none, some (.long (12 : Int64)), none]) clX12_348 dX12_wrongRow_13 rfl rfl (Nat.le_of_ble_eq_true rfl) (Nat.le_of_ble_eq_true rfl) (dnX12_isFrom hX  (o_bdp h)) (fun r2 μ2 zr2 h => ?_)
    refine s_if_ne (tgt := 21) dX12_wrongRow_16 rfl (fun c1 => ?_) (fun c1 => ?_)
    · have h := o_if_f c1 h
      refine s_aload_n (i := 0) dX12_wrongRow_21 rfl rfl ?_
      refine s_getR hX h0 flX12_24 rfl dX12_wrongRow_22 (fun (g1 : o_is X (o_rf X a0 6) (.inr (0, 4))) => ?_)
      refine s_iload_n (i := 1) dX12_wrongRow_25 rfl rfl ?_
      have hc := o_ck_c h
      have h := o_ck_k h
      refine s_ialdK g1 hc rfl dX12_wrongRow_26 ?_
      refine s_iconst dX12_wrongRow_27 kI_m1 ?_
      refine s_icmp_ne (tgt := 33) dX12_wrongRow_28 rfl (fun c1 => ?_) (fun c1 => ?_)
      · have h := o_if_f c1 h
        refine s_aload_n (i := 0) dX12_wrongRow_33 rfl rfl ?_
        refine s_getR hX h0 flX12_24 rfl dX12_wrongRow_34 (fun (g2 : o_is X (o_rf X a0 6) (.inr (0, 4))) => ?_)
        refine s_iload_n (i := 1) dX12_wrongRow_37 rfl rfl ?_
        have hc := o_ck_c h
        have h := o_ck_k h
        refine s_ialdK g2 hc rfl dX12_wrongRow_38 ?_
        refine s_iload_n (i := 2) dX12_wrongRow_39 rfl rfl ?_
        refine s_icmp_ge (tgt := 45) dX12_wrongRow_40 rfl (fun c1 => ?_) (fun c1 => ?_)
        · have h := o_if_t c1 h
          refine s_iconst dX12_wrongRow_45 kI_0 ?_
          refine s_istore_n (i := 3) dX12_wrongRow_46 rfl (Nat.le_of_ble_eq_true rfl) rfl ?_
          refine s_mask [true, true, true, true] (L' := [some (.ref (o_ad X a0)), some (.int x1), some (.int x2), some (.int 0)]) rfl ?_
          refine o_lp_ev (fun τ47 => [some (.ref (o_ad X a0)), some (.int x1), some (.int x2), some (.int τ47)]) (fun τ47 μ _K h kv ke47 => dnX12_wrongRow_s47 hX h0 h kv (fun τ47 μ3 h => ?_) (fun τ47 μ3 h => ?_)) o_fuel 0 μ2 (o_bdp h)
          · have h := o_if_t rfl (ke47 (70, τ47) μ3 (o_ne rfl) h)
            refine s_iconst dX12_wrongRow_70 kI_5 ?_
            exact s_ireturn rfl dX12_wrongRow_71 ⟨_, rfl, o_ret h⟩
          · have h := o_if_t rfl (o_if_f (o_ne rfl) (ke47 (78, τ47) μ3 (o_ne rfl) h))
            refine s_iconst dX12_wrongRow_78 kI_0 ?_
            exact s_ireturn rfl dX12_wrongRow_79 ⟨_, rfl, o_ret h⟩
        · have h := o_if_f c1 h
          refine s_iconst dX12_wrongRow_43 kI_3 ?_
          exact s_ireturn rfl dX12_wrongRow_44 ⟨_, rfl, o_ret h⟩
      · have h := o_if_t c1 h
        refine s_iconst dX12_wrongRow_31 kI_2 ?_
        exact s_ireturn rfl dX12_wrongRow_32 ⟨_, rfl, o_ret h⟩
    · have h := o_if_t c1 h
      refine s_iconst dX12_wrongRow_19 kI_1 ?_
      exact s_ireturn rfl dX12_wrongRow_20 ⟨_, rfl, o_ret h⟩
