theorem dX12_rowAt_0 : decode cX12_rowAt 0 = .ok (.aload_n 0, 1) := by decide +kernel
theorem dX12_rowAt_1 : decode cX12_rowAt 1 = .ok (.getfield 27, 3) := by decide +kernel
theorem dX12_rowAt_4 : decode cX12_rowAt 4 = .ok (.bipush 60, 2) := by decide +kernel
theorem dX12_rowAt_6 : decode cX12_rowAt 6 = .ok (.iload_n 1, 1) := by decide +kernel
theorem dX12_rowAt_7 : decode cX12_rowAt 7 = .ok (.imul, 1) := by decide +kernel
theorem dX12_rowAt_8 : decode cX12_rowAt 8 = .ok (.iload_n 2, 1) := by decide +kernel
theorem dX12_rowAt_9 : decode cX12_rowAt 9 = .ok (.iadd, 1) := by decide +kernel
theorem dX12_rowAt_10 : decode cX12_rowAt 10 = .ok (.laload, 1) := by decide +kernel
theorem dX12_rowAt_11 : decode cX12_rowAt 11 = .ok (.l2i, 1) := by decide +kernel
theorem dX12_rowAt_12 : decode cX12_rowAt 12 = .ok (.ireturn, 1) := by decide +kernel
noncomputable def fX12_rowAt (rf : Nat → Nat → Nat) (a0 : Nat) (x1 : Int32) (x2 : Int32) (μ0 : o_Mem) : Option (Int32 × o_Mem) :=
  o_ck (0 ≤ (((60 * x1) + x2)).toInt ∧ (((60 * x1) + x2)).toInt < 240) <|
  some ((μ0.2 (rf a0 7) (((60 * x1) + x2)).toNatClampNeg).toInt32, μ0)
set_option maxRecDepth 20000 in
theorem dnX12_rowAt {X : o_Cx} (hX : o_ok X) {d : Nat} {a0 : Nat} {x1 : Int32} {x2 : Int32} {μ0 : o_Mem} {q : Int32 → o_Mem → Prop} (h0 : o_is X a0 (.inl 12)) (h : o_Post (fX12_rowAt (o_rf X) a0 x1 x2 μ0) q) : o_Ev X (d + 0) mX12_rowAt 0 [some (.ref (o_ad X a0)), some (.int x1), some (.int x2)] [] μ0 (o_QI q) := by
  unfold fX12_rowAt at h
  refine s_aload_n (i := 0) dX12_rowAt_0 rfl rfl ?_
  refine s_getR hX h0 flX12_27 rfl dX12_rowAt_1 (fun (g1 : o_is X (o_rf X a0 7) (.inr (2, 240))) => ?_)
  refine s_bipush dX12_rowAt_4 kB_60 ?_
  refine s_iload_n (i := 1) dX12_rowAt_6 rfl rfl ?_
  refine s_imul dX12_rowAt_7 ?_
  refine s_iload_n (i := 2) dX12_rowAt_8 rfl rfl ?_
  refine s_iadd dX12_rowAt_9 ?_
  have hc := o_ck_c h
  have h := o_ck_k h
  refine s_laldK g1 hc rfl dX12_rowAt_10 ?_
  refine s_l2i dX12_rowAt_11 ?_
  exact s_ireturn rfl dX12_rowAt_12 ⟨_, rfl, o_ret h⟩
theorem dX12_reads_0 : decode cX12_reads 0 = .ok (.aload_n 0, 1) := by decide +kernel
theorem dX12_reads_1 : decode cX12_reads 1 = .ok (.iload_n 1, 1) := by decide +kernel
theorem dX12_reads_2 : decode cX12_reads 2 = .ok (.iload_n 2, 1) := by decide +kernel
theorem dX12_reads_3 : decode cX12_reads 3 = .ok (.invokevirtual 394, 3) := by decide +kernel
theorem dX12_reads_6 : decode cX12_reads 6 = .ok (.istore_n 3, 1) := by decide +kernel
theorem dX12_reads_7 : decode cX12_reads 7 = .ok (.iload_n 3, 1) := by decide +kernel
theorem dX12_reads_8 : decode cX12_reads 8 = .ok (.ifCond .le 10, 3) := by decide +kernel
theorem dX12_reads_11 : decode cX12_reads 11 = .ok (.aload_n 0, 1) := by decide +kernel
theorem dX12_reads_12 : decode cX12_reads 12 = .ok (.iload_n 3, 1) := by decide +kernel
theorem dX12_reads_13 : decode cX12_reads 13 = .ok (.invokevirtual 87, 3) := by decide +kernel
theorem dX12_reads_16 : decode cX12_reads 16 = .ok (.i2l, 1) := by decide +kernel
theorem dX12_reads_17 : decode cX12_reads 17 = .ok (.lreturn, 1) := by decide +kernel
theorem dX12_reads_18 : decode cX12_reads 18 = .ok (.iconst 0, 1) := by decide +kernel
theorem dX12_reads_19 : decode cX12_reads 19 = .ok (.istore 4, 2) := by decide +kernel
theorem dX12_reads_21 : decode cX12_reads 21 = .ok (.iload 4, 2) := by decide +kernel
theorem dX12_reads_23 : decode cX12_reads 23 = .ok (.bipush 12, 2) := by decide +kernel
theorem dX12_reads_25 : decode cX12_reads 25 = .ok (.if_icmp .gt 26, 3) := by decide +kernel
theorem dX12_reads_28 : decode cX12_reads 28 = .ok (.aload_n 0, 1) := by decide +kernel
theorem dX12_reads_29 : decode cX12_reads 29 = .ok (.getfield 53, 3) := by decide +kernel
theorem dX12_reads_32 : decode cX12_reads 32 = .ok (.iload 4, 2) := by decide +kernel
theorem dX12_reads_34 : decode cX12_reads 34 = .ok (.iload 4, 2) := by decide +kernel
theorem dX12_reads_36 : decode cX12_reads 36 = .ok (.ifCond .ne 7, 3) := by decide +kernel
theorem dX12_reads_39 : decode cX12_reads 39 = .ok (.lconst 1, 1) := by decide +kernel
theorem dX12_reads_40 : decode cX12_reads 40 = .ok (.goto 4, 3) := by decide +kernel
theorem dX12_reads_43 : decode cX12_reads 43 = .ok (.lconst 0, 1) := by decide +kernel
theorem dX12_reads_44 : decode cX12_reads 44 = .ok (.lastore, 1) := by decide +kernel
theorem dX12_reads_45 : decode cX12_reads 45 = .ok (.iinc 4 1, 3) := by decide +kernel
theorem dX12_reads_48 : decode cX12_reads 48 = .ok (.goto (-27), 3) := by decide +kernel
theorem dX12_reads_51 : decode cX12_reads 51 = .ok (.iconst 0, 1) := by decide +kernel
theorem dX12_reads_52 : decode cX12_reads 52 = .ok (.istore 4, 2) := by decide +kernel
theorem dX12_reads_54 : decode cX12_reads 54 = .ok (.iload 4, 2) := by decide +kernel
theorem dX12_reads_56 : decode cX12_reads 56 = .ok (.aload_n 0, 1) := by decide +kernel
theorem dX12_reads_57 : decode cX12_reads 57 = .ok (.getfield 7, 3) := by decide +kernel
theorem dX12_reads_60 : decode cX12_reads 60 = .ok (.iconst 5, 1) := by decide +kernel
theorem dX12_reads_61 : decode cX12_reads 61 = .ok (.iaload, 1) := by decide +kernel
theorem dX12_reads_62 : decode cX12_reads 62 = .ok (.if_icmp .ge 66, 3) := by decide +kernel
theorem dX12_reads_65 : decode cX12_reads 65 = .ok (.iload_n 2, 1) := by decide +kernel
theorem dX12_reads_66 : decode cX12_reads 66 = .ok (.istore 5, 2) := by decide +kernel
theorem dX12_reads_68 : decode cX12_reads 68 = .ok (.iload 5, 2) := by decide +kernel
theorem dX12_reads_70 : decode cX12_reads 70 = .ok (.ifCond .le 52, 3) := by decide +kernel
theorem dX12_reads_73 : decode cX12_reads 73 = .ok (.aload_n 0, 1) := by decide +kernel
theorem dX12_reads_74 : decode cX12_reads 74 = .ok (.getfield 7, 3) := by decide +kernel
theorem dX12_reads_77 : decode cX12_reads 77 = .ok (.iload 4, 2) := by decide +kernel
theorem dX12_reads_79 : decode cX12_reads 79 = .ok (.invokestatic 311, 3) := by decide +kernel
theorem dX12_reads_82 : decode cX12_reads 82 = .ok (.iconst 4, 1) := by decide +kernel
theorem dX12_reads_83 : decode cX12_reads 83 = .ok (.iadd, 1) := by decide +kernel
theorem dX12_reads_84 : decode cX12_reads 84 = .ok (.iaload, 1) := by decide +kernel
theorem dX12_reads_85 : decode cX12_reads 85 = .ok (.aload_n 0, 1) := by decide +kernel
theorem dX12_reads_86 : decode cX12_reads 86 = .ok (.iload_n 1, 1) := by decide +kernel
theorem dX12_reads_87 : decode cX12_reads 87 = .ok (.iload 5, 2) := by decide +kernel
theorem dX12_reads_89 : decode cX12_reads 89 = .ok (.iconst 1, 1) := by decide +kernel
theorem dX12_reads_90 : decode cX12_reads 90 = .ok (.isub, 1) := by decide +kernel
theorem dX12_reads_91 : decode cX12_reads 91 = .ok (.invokevirtual 397, 3) := by decide +kernel
theorem dX12_reads_94 : decode cX12_reads 94 = .ok (.if_icmp .ne 22, 3) := by decide +kernel
theorem dX12_reads_97 : decode cX12_reads 97 = .ok (.aload_n 0, 1) := by decide +kernel
theorem dX12_reads_98 : decode cX12_reads 98 = .ok (.getfield 53, 3) := by decide +kernel
theorem dX12_reads_101 : decode cX12_reads 101 = .ok (.iload 5, 2) := by decide +kernel
theorem dX12_reads_103 : decode cX12_reads 103 = .ok (.dup2, 1) := by decide +kernel
theorem dX12_reads_104 : decode cX12_reads 104 = .ok (.laload, 1) := by decide +kernel
theorem dX12_reads_105 : decode cX12_reads 105 = .ok (.aload_n 0, 1) := by decide +kernel
theorem dX12_reads_106 : decode cX12_reads 106 = .ok (.getfield 53, 3) := by decide +kernel
theorem dX12_reads_109 : decode cX12_reads 109 = .ok (.iload 5, 2) := by decide +kernel
theorem dX12_reads_111 : decode cX12_reads 111 = .ok (.iconst 1, 1) := by decide +kernel
theorem dX12_reads_112 : decode cX12_reads 112 = .ok (.isub, 1) := by decide +kernel
theorem dX12_reads_113 : decode cX12_reads 113 = .ok (.laload, 1) := by decide +kernel
theorem dX12_reads_114 : decode cX12_reads 114 = .ok (.ladd, 1) := by decide +kernel
theorem dX12_reads_115 : decode cX12_reads 115 = .ok (.lastore, 1) := by decide +kernel
theorem dX12_reads_116 : decode cX12_reads 116 = .ok (.iinc 5 (-1), 3) := by decide +kernel
theorem dX12_reads_119 : decode cX12_reads 119 = .ok (.goto (-51), 3) := by decide +kernel
theorem dX12_reads_122 : decode cX12_reads 122 = .ok (.iinc 4 1, 3) := by decide +kernel
theorem dX12_reads_125 : decode cX12_reads 125 = .ok (.goto (-71), 3) := by decide +kernel
theorem dX12_reads_128 : decode cX12_reads 128 = .ok (.aload_n 0, 1) := by decide +kernel
theorem dX12_reads_129 : decode cX12_reads 129 = .ok (.iconst 0, 1) := by decide +kernel
theorem dX12_reads_130 : decode cX12_reads 130 = .ok (.invokevirtual 94, 3) := by decide +kernel
theorem dX12_reads_133 : decode cX12_reads 133 = .ok (.pop, 1) := by decide +kernel
theorem dX12_reads_134 : decode cX12_reads 134 = .ok (.aload_n 0, 1) := by decide +kernel
theorem dX12_reads_135 : decode cX12_reads 135 = .ok (.getfield 53, 3) := by decide +kernel
theorem dX12_reads_138 : decode cX12_reads 138 = .ok (.iload_n 2, 1) := by decide +kernel
theorem dX12_reads_139 : decode cX12_reads 139 = .ok (.laload, 1) := by decide +kernel
theorem dX12_reads_140 : decode cX12_reads 140 = .ok (.lreturn, 1) := by decide +kernel
noncomputable def fX12_reads_j44 (rf : Nat → Nat → Nat) (a0 : Nat) (x1 : Int32) (x2 : Int32) (x4 : Int32) (b0 : Nat) (y1 : Int32) (y2 : Int64) (μ0 : o_Mem) : Option ((Nat × (Int32)) × o_Mem) :=
  o_ck (0 ≤ (y1).toInt ∧ (y1).toInt < 13) <|
  o_seq (o_wL μ0 b0 y1.toNatClampNeg y2) fun μ1 =>
  some ((21, (x4 + 1)), μ1)
noncomputable def fX12_reads_s21 (rf : Nat → Nat → Nat) (a0 : Nat) (x1 : Int32) (x2 : Int32) (τ21 : Int32) (μ0 : o_Mem) : Option ((Nat × (Int32)) × o_Mem) :=
  if 12 < τ21 then (
    some ((51, 0), μ0))
  else (
    if τ21 = 0 then (
      fX12_reads_j44 rf a0 x1 x2 τ21 (rf a0 26) τ21 (1 : Int64) μ0)
    else (
      fX12_reads_j44 rf a0 x1 x2 τ21 (rf a0 26) τ21 (0 : Int64) μ0))
noncomputable def fX12_reads_s68 (rf : Nat → Nat → Nat) (a0 : Nat) (x1 : Int32) (x2 : Int32) (x4 : Int32) (τ68 : Int32) (μ0 : o_Mem) : Option ((Nat × (Int32)) × o_Mem) :=
  if τ68 ≤ 0 then (
    some ((122, 0), μ0))
  else (
    o_bd (fX12_coverRow rf x4 μ0) fun r1 μ1 =>
    o_ck (0 ≤ ((r1 + 4)).toInt ∧ ((r1 + 4)).toInt < 3756) <|
    o_bd (fX12_rowAt rf a0 x1 (τ68 - 1) μ1) fun r2 μ2 =>
    if (μ1.1 (rf a0 0) ((r1 + 4)).toNatClampNeg) = r2 then (
      o_ck (0 ≤ (τ68).toInt ∧ (τ68).toInt < 13) <|
      o_ck (0 ≤ ((τ68 - 1)).toInt ∧ ((τ68 - 1)).toInt < 13) <|
      o_ck (0 ≤ (τ68).toInt ∧ (τ68).toInt < 13) <|
      o_seq (o_wL μ2 (rf a0 26) τ68.toNatClampNeg ((μ2.2 (rf a0 26) τ68.toNatClampNeg) + (μ2.2 (rf a0 26) ((τ68 - 1)).toNatClampNeg))) fun μ3 =>
      some ((68, (τ68 + (-1))), μ3))
    else (
      some ((68, (τ68 + (-1))), μ2)))
noncomputable def fX12_reads_s54 (rf : Nat → Nat → Nat) (a0 : Nat) (x1 : Int32) (x2 : Int32) (τ54 : Int32) (μ0 : o_Mem) : Option ((Nat × (Int32)) × o_Mem) :=
  if (μ0.1 (rf a0 0) 5) ≤ τ54 then (
    some ((128, 0), μ0))
  else (
    o_bd (o_lp 68 (fX12_reads_s68 rf a0 x1 x2 τ54) o_fuel (x2 : Int32) μ0) fun ex1 μ1 =>
    if ex1.1 = 122 then (
      some ((54, (τ54 + 1)), μ1))
    else
      none)
noncomputable def fX12_reads (rf : Nat → Nat → Nat) (a0 : Nat) (x1 : Int32) (x2 : Int32) (μ0 : o_Mem) : Option (Int64 × o_Mem) :=
  o_bd (fX12_wrongRow rf a0 x1 x2 μ0) fun r1 μ1 =>
  if r1 ≤ 0 then (
    o_bd (o_lp 21 (fX12_reads_s21 rf a0 x1 x2) o_fuel (0 : Int32) μ1) fun ex2 μ2 =>
    if ex2.1 = 51 then (
      o_bd (o_lp 54 (fX12_reads_s54 rf a0 x1 x2) o_fuel (0 : Int32) μ2) fun ex3 μ3 =>
      if ex3.1 = 128 then (
        o_bd (fX12_is rf a0 0 μ3) fun r2 μ4 =>
        o_ck (0 ≤ (x2).toInt ∧ (x2).toInt < 13) <|
        some ((μ4.2 (rf a0 26) x2.toNatClampNeg), μ4))
      else
        none)
    else
      none)
  else (
    o_bd (fX12_refuse rf a0 r1 μ1) fun r3 μ5 =>
    some (r3.toInt64, μ5))
set_option maxRecDepth 20000 in
theorem dnX12_reads_j44 {X : o_Cx} (hX : o_ok X) {d : Nat} {a0 : Nat} {x1 : Int32} {x2 : Int32} {x4 : Int32} {b0 : Nat} {y1 : Int32} {y2 : Int64} {μ0 : o_Mem} {K : (Nat × (Int32)) → o_Mem → Prop} {Q : Option Value → o_Mem → Prop} (h0 : o_is X a0 (.inl 12)) (hb0 : o_is X b0 (.inr (2, 13))) (h : o_Post (fX12_reads_j44 (o_rf X) a0 x1 x2 x4 b0 y1 y2 μ0) K) (kh : ∀ (τ21 : Int32) (μ : o_Mem), K (21, τ21) μ → o_Ev X (d + 2) mX12_reads 21 [some (.ref (o_ad X a0)), some (.int x1), some (.int x2), none, some (.int τ21), none] [] μ Q) (k51 : ∀ (τ21 : Int32) (μ : o_Mem), K (51, τ21) μ → o_Ev X (d + 2) mX12_reads 51 [some (.ref (o_ad X a0)), some (.int x1), some (.int x2), none, none, none] [] μ Q) : o_Ev X (d + 2) mX12_reads 44 [some (.ref (o_ad X a0)), some (.int x1), some (.int x2), none, some (.int x4), none] [.long y2, .int y1, .ref (o_ad X b0)] μ0 Q := by
  unfold fX12_reads_j44 at h
  have hc := o_ck_c h
  have h := o_ck_k h
  refine s_lastK hX hb0 hc rfl dX12_reads_44 (o_gen h (fun μ1 h => ?_))
  refine s_iinc (v := (x4 + 1)) dX12_reads_45 rfl rfl (Nat.le_of_ble_eq_true rfl) rfl ?_
  refine s_goto (tgt := 21) dX12_reads_48 rfl ?_
  refine s_mask [true, true, true, false, true, false] (L' := [some (.ref (o_ad X a0)), some (.int x1), some (.int x2), none, some (.int (x4 + 1)), none]) rfl ?_
  exact kh (x4 + 1) _ (o_ret h)
set_option maxRecDepth 20000 in
theorem dnX12_reads_s21 {X : o_Cx} (hX : o_ok X) {d : Nat} {a0 : Nat} {x1 : Int32} {x2 : Int32} {τ21 : Int32} {μ0 : o_Mem} {K : (Nat × (Int32)) → o_Mem → Prop} {Q : Option Value → o_Mem → Prop} (h0 : o_is X a0 (.inl 12)) (h : o_Post (fX12_reads_s21 (o_rf X) a0 x1 x2 τ21 μ0) K) (kh : ∀ (τ21 : Int32) (μ : o_Mem), K (21, τ21) μ → o_Ev X (d + 2) mX12_reads 21 [some (.ref (o_ad X a0)), some (.int x1), some (.int x2), none, some (.int τ21), none] [] μ Q) (k51 : ∀ (τ21 : Int32) (μ : o_Mem), K (51, τ21) μ → o_Ev X (d + 2) mX12_reads 51 [some (.ref (o_ad X a0)), some (.int x1), some (.int x2), none, none, none] [] μ Q) : o_Ev X (d + 2) mX12_reads 21 [some (.ref (o_ad X a0)), some (.int x1), some (.int x2), none, some (.int τ21), none] [] μ0 Q := by
  unfold fX12_reads_s21 at h
  refine s_iload dX12_reads_21 rfl ?_
  refine s_bipush dX12_reads_23 kB_12 ?_
  refine s_icmp_gt (tgt := 51) dX12_reads_25 rfl (fun c1 => ?_) (fun c1 => ?_)
  · have h := o_if_t c1 h
    refine s_mask [true, true, true, false, false, false] (L' := [some (.ref (o_ad X a0)), some (.int x1), some (.int x2), none, none, none]) rfl ?_
    exact k51 0 _ (o_ret h)
  · have h := o_if_f c1 h
    refine s_aload_n (i := 0) dX12_reads_28 rfl rfl ?_
    refine s_getR hX h0 flX12_53 rfl dX12_reads_29 (fun (g1 : o_is X (o_rf X a0 26) (.inr (2, 13))) => ?_)
    refine s_iload dX12_reads_32 rfl ?_
    refine s_iload dX12_reads_34 rfl ?_
    refine s_if_ne (tgt := 43) dX12_reads_36 rfl (fun c1 => ?_) (fun c1 => ?_)
    · have h := o_if_f c1 h
      refine s_lconst (v := 0) dX12_reads_43 rfl ?_
      refine s_mask [true, true, true, false, true, false] (L' := [some (.ref (o_ad X a0)), some (.int x1), some (.int x2), none, some (.int τ21), none]) rfl ?_
      exact dnX12_reads_j44 hX h0 g1 h kh k51
    · have h := o_if_t c1 h
      refine s_lconst (v := 1) dX12_reads_39 rfl ?_
      refine s_goto (tgt := 44) dX12_reads_40 rfl ?_
      refine s_mask [true, true, true, false, true, false] (L' := [some (.ref (o_ad X a0)), some (.int x1), some (.int x2), none, some (.int τ21), none]) rfl ?_
      exact dnX12_reads_j44 hX h0 g1 h kh k51
set_option maxRecDepth 20000 in
theorem dnX12_reads_s68 {X : o_Cx} (hX : o_ok X) {d : Nat} {a0 : Nat} {x1 : Int32} {x2 : Int32} {x4 : Int32} {τ68 : Int32} {μ0 : o_Mem} {K : (Nat × (Int32)) → o_Mem → Prop} {Q : Option Value → o_Mem → Prop} (h0 : o_is X a0 (.inl 12)) (h : o_Post (fX12_reads_s68 (o_rf X) a0 x1 x2 x4 τ68 μ0) K) (kh : ∀ (τ68 : Int32) (μ : o_Mem), K (68, τ68) μ → o_Ev X (d + 2) mX12_reads 68 [some (.ref (o_ad X a0)), some (.int x1), some (.int x2), none, some (.int x4), some (.int τ68)] [] μ Q) (k122 : ∀ (τ68 : Int32) (μ : o_Mem), K (122, τ68) μ → o_Ev X (d + 2) mX12_reads 122 [some (.ref (o_ad X a0)), some (.int x1), some (.int x2), none, some (.int x4), none] [] μ Q) : o_Ev X (d + 2) mX12_reads 68 [some (.ref (o_ad X a0)), some (.int x1), some (.int x2), none, some (.int x4), some (.int τ68)] [] μ0 Q := by
  unfold fX12_reads_s68 at h
  refine s_iload dX12_reads_68 rfl ?_
  refine s_if_le (tgt := 122) dX12_reads_70 rfl (fun c1 => ?_) (fun c1 => ?_)
  · have h := o_if_t c1 h
    refine s_mask [true, true, true, false, true, false] (L' := [some (.ref (o_ad X a0)), some (.int x1), some (.int x2), none, some (.int x4), none]) rfl ?_
    exact k122 0 _ (o_ret h)
  · have h := o_if_f c1 h
    refine s_aload_n (i := 0) dX12_reads_73 rfl rfl ?_
    refine s_getR hX h0 flX12_7 rfl dX12_reads_74 (fun (g1 : o_is X (o_rf X a0 0) (.inr (0, 3756))) => ?_)
    refine s_iload dX12_reads_77 rfl ?_
    refine s_callSi (C := mX12_coverRow) (As := [.int x4]) (rest := [.ref (o_ad X (o_rf X a0 0))]) (L0 := [some (.int x4)]) clX12_311 dX12_reads_79 rfl rfl (Nat.le_of_ble_eq_true rfl) (Nat.le_of_ble_eq_true rfl) (dnX12_coverRow hX  (o_bdp h)) (fun r1 μ1 h => ?_)
    refine s_iconst dX12_reads_82 kI_4 ?_
    refine s_iadd dX12_reads_83 ?_
    have hc := o_ck_c h
    have h := o_ck_k h
    refine s_ialdK g1 hc rfl dX12_reads_84 ?_
    refine s_aload_n (i := 0) dX12_reads_85 rfl rfl ?_
    refine s_iload_n (i := 1) dX12_reads_86 rfl rfl ?_
    refine s_iload dX12_reads_87 rfl ?_
    refine s_iconst dX12_reads_89 kI_1 ?_
    refine s_isub dX12_reads_90 ?_
    refine s_callVi (C := mX12_rowAt) (As := [.int x1, .int (τ68 - 1)]) (rest := [.int (μ1.1 (o_rf X a0 0) ((r1 + 4)).toNatClampNeg)]) (L0 := [some (.ref (o_ad X a0)), some (.int x1), some (.int (τ68 - 1))]) hX h0 clX12_397 dX12_reads_91 rfl rfl (Nat.le_of_ble_eq_true rfl) (Nat.le_of_ble_eq_true rfl) (dnX12_rowAt hX h0 (o_bdp h)) (fun r2 μ2 h => ?_)
    refine s_icmp_ne (tgt := 116) dX12_reads_94 rfl (fun c1 => ?_) (fun c1 => ?_)
    · have h := o_if_f c1 h
      refine s_iinc (v := (τ68 + (-1))) dX12_reads_116 rfl rfl (Nat.le_of_ble_eq_true rfl) rfl ?_
      refine s_goto (tgt := 68) dX12_reads_119 rfl ?_
      refine s_mask [true, true, true, false, true, true] (L' := [some (.ref (o_ad X a0)), some (.int x1), some (.int x2), none, some (.int x4), some (.int (τ68 + (-1)))]) rfl ?_
      exact kh (τ68 + (-1)) _ (o_ret h)
    · have h := o_if_t c1 h
      refine s_aload_n (i := 0) dX12_reads_97 rfl rfl ?_
      refine s_getR hX h0 flX12_53 rfl dX12_reads_98 (fun (g2 : o_is X (o_rf X a0 26) (.inr (2, 13))) => ?_)
      refine s_iload dX12_reads_101 rfl ?_
      refine s_dup2 dX12_reads_103 rfl rfl ?_
      have hc := o_ck_c h
      have h := o_ck_k h
      refine s_laldK g2 hc rfl dX12_reads_104 ?_
      refine s_aload_n (i := 0) dX12_reads_105 rfl rfl ?_
      refine s_getR hX h0 flX12_53 rfl dX12_reads_106 (fun (g3 : o_is X (o_rf X a0 26) (.inr (2, 13))) => ?_)
      refine s_iload dX12_reads_109 rfl ?_
      refine s_iconst dX12_reads_111 kI_1 ?_
      refine s_isub dX12_reads_112 ?_
      have hc := o_ck_c h
      have h := o_ck_k h
      refine s_laldK g3 hc rfl dX12_reads_113 ?_
      refine s_ladd dX12_reads_114 ?_
      have hc := o_ck_c h
      have h := o_ck_k h
      refine s_lastK hX g2 hc rfl dX12_reads_115 (o_gen h (fun μ3 h => ?_))
      refine s_iinc (v := (τ68 + (-1))) dX12_reads_116 rfl rfl (Nat.le_of_ble_eq_true rfl) rfl ?_
      refine s_goto (tgt := 68) dX12_reads_119 rfl ?_
      refine s_mask [true, true, true, false, true, true] (L' := [some (.ref (o_ad X a0)), some (.int x1), some (.int x2), none, some (.int x4), some (.int (τ68 + (-1)))]) rfl ?_
      exact kh (τ68 + (-1)) _ (o_ret h)
set_option maxRecDepth 20000 in
theorem dnX12_reads_s54 {X : o_Cx} (hX : o_ok X) {d : Nat} {a0 : Nat} {x1 : Int32} {x2 : Int32} {τ54 : Int32} {μ0 : o_Mem} {K : (Nat × (Int32)) → o_Mem → Prop} {Q : Option Value → o_Mem → Prop} (h0 : o_is X a0 (.inl 12)) (h : o_Post (fX12_reads_s54 (o_rf X) a0 x1 x2 τ54 μ0) K) (kh : ∀ (τ54 : Int32) (μ : o_Mem), K (54, τ54) μ → o_Ev X (d + 2) mX12_reads 54 [some (.ref (o_ad X a0)), some (.int x1), some (.int x2), none, some (.int τ54), none] [] μ Q) (k128 : ∀ (τ54 : Int32) (μ : o_Mem), K (128, τ54) μ → o_Ev X (d + 2) mX12_reads 128 [some (.ref (o_ad X a0)), none, some (.int x2), none, none, none] [] μ Q) : o_Ev X (d + 2) mX12_reads 54 [some (.ref (o_ad X a0)), some (.int x1), some (.int x2), none, some (.int τ54), none] [] μ0 Q := by
  unfold fX12_reads_s54 at h
  refine s_iload dX12_reads_54 rfl ?_
  refine s_aload_n (i := 0) dX12_reads_56 rfl rfl ?_
  refine s_getR hX h0 flX12_7 rfl dX12_reads_57 (fun (g1 : o_is X (o_rf X a0 0) (.inr (0, 3756))) => ?_)
  refine s_iconst dX12_reads_60 kI_5 ?_
  refine s_ialdK g1 ⟨by decide, by decide⟩ kN_5 dX12_reads_61 ?_
  refine s_icmp_ge (tgt := 128) dX12_reads_62 rfl (fun c1 => ?_) (fun c1 => ?_)
  · have h := o_if_t c1 h
    refine s_mask [true, false, true, false, false, false] (L' := [some (.ref (o_ad X a0)), none, some (.int x2), none, none, none]) rfl ?_
    exact k128 0 _ (o_ret h)
  · have h := o_if_f c1 h
    refine s_iload_n (i := 2) dX12_reads_65 rfl rfl ?_
    refine s_istore dX12_reads_66 (Nat.le_of_ble_eq_true rfl) rfl ?_
    refine s_mask [true, true, true, false, true, true] (L' := [some (.ref (o_ad X a0)), some (.int x1), some (.int x2), none, some (.int τ54), some (.int x2)]) rfl ?_
    refine o_lp_ev (fun τ68 => [some (.ref (o_ad X a0)), some (.int x1), some (.int x2), none, some (.int τ54), some (.int τ68)]) (fun τ68 μ _K h kv ke68 => dnX12_reads_s68 hX h0 h kv (fun τ68 μ1 h => ?_)) o_fuel x2 μ0 (o_bdp h)
    · have h := o_if_t rfl (ke68 (122, τ68) μ1 (o_ne rfl) h)
      refine s_iinc (v := (τ54 + 1)) dX12_reads_122 rfl rfl (Nat.le_of_ble_eq_true rfl) rfl ?_
      refine s_goto (tgt := 54) dX12_reads_125 rfl ?_
      refine s_mask [true, true, true, false, true, false] (L' := [some (.ref (o_ad X a0)), some (.int x1), some (.int x2), none, some (.int (τ54 + 1)), none]) rfl ?_
      exact kh (τ54 + 1) _ (o_ret h)
set_option maxRecDepth 20000 in
theorem dnX12_reads {X : o_Cx} (hX : o_ok X) {d : Nat} {a0 : Nat} {x1 : Int32} {x2 : Int32} {μ0 : o_Mem} {q : Int64 → o_Mem → Prop} (h0 : o_is X a0 (.inl 12)) (h : o_Post (fX12_reads (o_rf X) a0 x1 x2 μ0) q) : o_Ev X (d + 2) mX12_reads 0 [some (.ref (o_ad X a0)), some (.int x1), some (.int x2), none, none, none] [] μ0 (o_QL q) := by
  unfold fX12_reads at h
  refine s_aload_n (i := 0) dX12_reads_0 rfl rfl ?_
  refine s_iload_n (i := 1) dX12_reads_1 rfl rfl ?_
  refine s_iload_n (i := 2) dX12_reads_2 rfl rfl ?_
  refine s_callVi (C := mX12_wrongRow) (As := [.int x1, .int x2]) (rest := []) (L0 := [some (.ref (o_ad X a0)), some (.int x1), some (.int x2), none]) hX h0 clX12_394 dX12_reads_3 rfl rfl (Nat.le_of_ble_eq_true rfl) (Nat.le_of_ble_eq_true rfl) (dnX12_wrongRow hX h0 (o_bdp h)) (fun r1 μ1 h => ?_)
  refine s_istore_n (i := 3) dX12_reads_6 rfl (Nat.le_of_ble_eq_true rfl) rfl ?_
  refine s_iload_n (i := 3) dX12_reads_7 rfl rfl ?_
  refine s_if_le (tgt := 18) dX12_reads_8 rfl (fun c1 => ?_) (fun c1 => ?_)
  · have h := o_if_t c1 h
    refine s_iconst dX12_reads_18 kI_0 ?_
    refine s_istore dX12_reads_19 (Nat.le_of_ble_eq_true rfl) rfl ?_
    refine s_mask [true, true, true, false, true, false] (L' := [some (.ref (o_ad X a0)), some (.int x1), some (.int x2), none, some (.int 0), none]) rfl ?_
    refine o_lp_ev (fun τ21 => [some (.ref (o_ad X a0)), some (.int x1), some (.int x2), none, some (.int τ21), none]) (fun τ21 μ _K h kv ke21 => dnX12_reads_s21 hX h0 h kv (fun τ21 μ2 h => ?_)) o_fuel 0 μ1 (o_bdp h)
    · have h := o_if_t rfl (ke21 (51, τ21) μ2 (o_ne rfl) h)
      refine s_iconst dX12_reads_51 kI_0 ?_
      refine s_istore dX12_reads_52 (Nat.le_of_ble_eq_true rfl) rfl ?_
      refine s_mask [true, true, true, false, true, false] (L' := [some (.ref (o_ad X a0)), some (.int x1), some (.int x2), none, some (.int 0), none]) rfl ?_
      refine o_lp_ev (fun τ54 => [some (.ref (o_ad X a0)), some (.int x1), some (.int x2), none, some (.int τ54), none]) (fun τ54 μ _K h kv ke54 => dnX12_reads_s54 hX h0 h kv (fun τ54 μ3 h => ?_)) o_fuel 0 μ2 (o_bdp h)
      · have h := o_if_t rfl (ke54 (128, τ54) μ3 (o_ne rfl) h)
        refine s_aload_n (i := 0) dX12_reads_128 rfl rfl ?_
        refine s_iconst dX12_reads_129 kI_0 ?_
        refine s_callVz (C := mX12_is) (As := [.int 0]) (rest := []) (L0 := [some (.ref (o_ad X a0)), some (.int 0)]) hX h0 clX12_94 dX12_reads_130 rfl rfl (Nat.le_of_ble_eq_true rfl) (Nat.le_of_ble_eq_true rfl) (dnX12_is hX h0 (o_bdp h)) (fun r2 μ4 zr2 h => ?_)
        refine s_pop dX12_reads_133 rfl ?_
        refine s_aload_n (i := 0) dX12_reads_134 rfl rfl ?_
        refine s_getR hX h0 flX12_53 rfl dX12_reads_135 (fun (g1 : o_is X (o_rf X a0 26) (.inr (2, 13))) => ?_)
        refine s_iload_n (i := 2) dX12_reads_138 rfl rfl ?_
        have hc := o_ck_c h
        have h := o_ck_k h
        refine s_laldK g1 hc rfl dX12_reads_139 ?_
        exact s_lreturn rfl dX12_reads_140 ⟨_, rfl, o_ret h⟩
  · have h := o_if_f c1 h
    refine s_aload_n (i := 0) dX12_reads_11 rfl rfl ?_
    refine s_iload_n (i := 3) dX12_reads_12 rfl rfl ?_
    refine s_callVi (C := mX12_refuse) (As := [.int r1]) (rest := []) (L0 := [some (.ref (o_ad X a0)), some (.int r1)]) hX h0 clX12_87 dX12_reads_13 rfl rfl (Nat.le_of_ble_eq_true rfl) (Nat.le_of_ble_eq_true rfl) (dnX12_refuse hX h0 (o_bdp h)) (fun r3 μ5 h => ?_)
    refine s_i2l dX12_reads_16 ?_
    exact s_lreturn rfl dX12_reads_17 ⟨_, rfl, o_ret h⟩
theorem dX12_isJust_0 : decode cX12_isJust 0 = .ok (.aload_n 0, 1) := by decide +kernel
theorem dX12_isJust_1 : decode cX12_isJust 1 = .ok (.iload_n 1, 1) := by decide +kernel
theorem dX12_isJust_2 : decode cX12_isJust 2 = .ok (.iload_n 2, 1) := by decide +kernel
theorem dX12_isJust_3 : decode cX12_isJust 3 = .ok (.invokevirtual 394, 3) := by decide +kernel
theorem dX12_isJust_6 : decode cX12_isJust 6 = .ok (.istore_n 3, 1) := by decide +kernel
theorem dX12_isJust_7 : decode cX12_isJust 7 = .ok (.iload_n 3, 1) := by decide +kernel
theorem dX12_isJust_8 : decode cX12_isJust 8 = .ok (.ifCond .le 9, 3) := by decide +kernel
theorem dX12_isJust_11 : decode cX12_isJust 11 = .ok (.aload_n 0, 1) := by decide +kernel
theorem dX12_isJust_12 : decode cX12_isJust 12 = .ok (.iload_n 3, 1) := by decide +kernel
theorem dX12_isJust_13 : decode cX12_isJust 13 = .ok (.invokevirtual 87, 3) := by decide +kernel
theorem dX12_isJust_16 : decode cX12_isJust 16 = .ok (.ireturn, 1) := by decide +kernel
theorem dX12_isJust_17 : decode cX12_isJust 17 = .ok (.aload_n 0, 1) := by decide +kernel
theorem dX12_isJust_18 : decode cX12_isJust 18 = .ok (.getfield 7, 3) := by decide +kernel
theorem dX12_isJust_21 : decode cX12_isJust 21 = .ok (.iconst 5, 1) := by decide +kernel
theorem dX12_isJust_22 : decode cX12_isJust 22 = .ok (.iaload, 1) := by decide +kernel
theorem dX12_isJust_23 : decode cX12_isJust 23 = .ok (.iload_n 2, 1) := by decide +kernel
theorem dX12_isJust_24 : decode cX12_isJust 24 = .ok (.if_icmp .ne 7, 3) := by decide +kernel
theorem dX12_isJust_27 : decode cX12_isJust 27 = .ok (.iconst 1, 1) := by decide +kernel
theorem dX12_isJust_28 : decode cX12_isJust 28 = .ok (.goto 4, 3) := by decide +kernel
theorem dX12_isJust_31 : decode cX12_isJust 31 = .ok (.iconst 0, 1) := by decide +kernel
theorem dX12_isJust_32 : decode cX12_isJust 32 = .ok (.istore 4, 2) := by decide +kernel
theorem dX12_isJust_34 : decode cX12_isJust 34 = .ok (.iconst 0, 1) := by decide +kernel
theorem dX12_isJust_35 : decode cX12_isJust 35 = .ok (.istore 5, 2) := by decide +kernel
theorem dX12_isJust_37 : decode cX12_isJust 37 = .ok (.iload 5, 2) := by decide +kernel
theorem dX12_isJust_39 : decode cX12_isJust 39 = .ok (.iload_n 2, 1) := by decide +kernel
theorem dX12_isJust_40 : decode cX12_isJust 40 = .ok (.if_icmp .ge 43, 3) := by decide +kernel
theorem dX12_isJust_43 : decode cX12_isJust 43 = .ok (.iload 4, 2) := by decide +kernel
theorem dX12_isJust_45 : decode cX12_isJust 45 = .ok (.ifCond .eq 38, 3) := by decide +kernel
theorem dX12_isJust_48 : decode cX12_isJust 48 = .ok (.aload_n 0, 1) := by decide +kernel
theorem dX12_isJust_49 : decode cX12_isJust 49 = .ok (.getfield 7, 3) := by decide +kernel
theorem dX12_isJust_52 : decode cX12_isJust 52 = .ok (.iload 5, 2) := by decide +kernel
theorem dX12_isJust_54 : decode cX12_isJust 54 = .ok (.invokestatic 311, 3) := by decide +kernel
theorem dX12_isJust_57 : decode cX12_isJust 57 = .ok (.iconst 4, 1) := by decide +kernel
theorem dX12_isJust_58 : decode cX12_isJust 58 = .ok (.iadd, 1) := by decide +kernel
theorem dX12_isJust_59 : decode cX12_isJust 59 = .ok (.iaload, 1) := by decide +kernel
theorem dX12_isJust_60 : decode cX12_isJust 60 = .ok (.aload_n 0, 1) := by decide +kernel
theorem dX12_isJust_61 : decode cX12_isJust 61 = .ok (.iload_n 1, 1) := by decide +kernel
theorem dX12_isJust_62 : decode cX12_isJust 62 = .ok (.iload 5, 2) := by decide +kernel
theorem dX12_isJust_64 : decode cX12_isJust 64 = .ok (.invokevirtual 397, 3) := by decide +kernel
theorem dX12_isJust_67 : decode cX12_isJust 67 = .ok (.if_icmp .ne 7, 3) := by decide +kernel
theorem dX12_isJust_70 : decode cX12_isJust 70 = .ok (.iconst 1, 1) := by decide +kernel
theorem dX12_isJust_71 : decode cX12_isJust 71 = .ok (.goto 4, 3) := by decide +kernel
theorem dX12_isJust_74 : decode cX12_isJust 74 = .ok (.iconst 0, 1) := by decide +kernel
theorem dX12_isJust_75 : decode cX12_isJust 75 = .ok (.istore 4, 2) := by decide +kernel
theorem dX12_isJust_77 : decode cX12_isJust 77 = .ok (.iinc 5 1, 3) := by decide +kernel
theorem dX12_isJust_80 : decode cX12_isJust 80 = .ok (.goto (-43), 3) := by decide +kernel
theorem dX12_isJust_83 : decode cX12_isJust 83 = .ok (.aload_n 0, 1) := by decide +kernel
theorem dX12_isJust_84 : decode cX12_isJust 84 = .ok (.iload 4, 2) := by decide +kernel
theorem dX12_isJust_86 : decode cX12_isJust 86 = .ok (.ifCond .eq 7, 3) := by decide +kernel
theorem dX12_isJust_89 : decode cX12_isJust 89 = .ok (.iconst 1, 1) := by decide +kernel
theorem dX12_isJust_90 : decode cX12_isJust 90 = .ok (.goto 4, 3) := by decide +kernel
theorem dX12_isJust_93 : decode cX12_isJust 93 = .ok (.iconst 0, 1) := by decide +kernel
theorem dX12_isJust_94 : decode cX12_isJust 94 = .ok (.invokevirtual 91, 3) := by decide +kernel
theorem dX12_isJust_97 : decode cX12_isJust 97 = .ok (.ireturn, 1) := by decide +kernel
noncomputable def fX12_isJust_s37 (rf : Nat → Nat → Nat) (a0 : Nat) (x1 : Int32) (x2 : Int32) (τ37 : Int32 × Int32) (μ0 : o_Mem) : Option ((Nat × (Int32 × Int32)) × o_Mem) :=
  if x2 ≤ τ37.2 then (
    some ((83, (τ37.1, 0)), μ0))
  else (
    if τ37.1 = 0 then (
      some ((83, (τ37.1, 0)), μ0))
    else (
      o_bd (fX12_coverRow rf τ37.2 μ0) fun r1 μ1 =>
      o_ck (0 ≤ ((r1 + 4)).toInt ∧ ((r1 + 4)).toInt < 3756) <|
      o_bd (fX12_rowAt rf a0 x1 τ37.2 μ1) fun r2 μ2 =>
      if (μ1.1 (rf a0 0) ((r1 + 4)).toNatClampNeg) = r2 then (
        some ((37, (1, (τ37.2 + 1))), μ2))
      else (
        some ((37, (0, (τ37.2 + 1))), μ2))))
noncomputable def fX12_isJust_j94 (rf : Nat → Nat → Nat) (b0 : Nat) (y1 : Int32) (μ0 : o_Mem) : Option (Int32 × o_Mem) :=
  o_bd (fX12_gives rf b0 y1 μ0) fun r1 μ1 =>
  some (r1, μ1)
noncomputable def fX12_isJust_j83 (rf : Nat → Nat → Nat) (a0 : Nat) (x4 : Int32) (μ0 : o_Mem) : Option (Int32 × o_Mem) :=
  if x4 = 0 then (
    fX12_isJust_j94 rf a0 0 μ0)
  else (
    fX12_isJust_j94 rf a0 1 μ0)
noncomputable def fX12_isJust (rf : Nat → Nat → Nat) (a0 : Nat) (x1 : Int32) (x2 : Int32) (μ0 : o_Mem) : Option (Int32 × o_Mem) :=
  o_bd (fX12_wrongRow rf a0 x1 x2 μ0) fun r1 μ1 =>
  if r1 ≤ 0 then (
    if (μ1.1 (rf a0 0) 5) = x2 then (
      o_bd (o_lp 37 (fX12_isJust_s37 rf a0 x1 x2) o_fuel (1, 0) μ1) fun ex3 μ3 =>
      if ex3.1 = 83 then (
        fX12_isJust_j83 rf a0 ex3.2.1 μ3)
      else
        none)
    else (
      o_bd (o_lp 37 (fX12_isJust_s37 rf a0 x1 x2) o_fuel (0, 0) μ1) fun ex2 μ2 =>
      if ex2.1 = 83 then (
        fX12_isJust_j83 rf a0 ex2.2.1 μ2)
      else
        none))
  else (
    o_bd (fX12_refuse rf a0 r1 μ1) fun r2 μ4 =>
    some (r2, μ4))
set_option maxRecDepth 20000 in
theorem dnX12_isJust_s37 {X : o_Cx} (hX : o_ok X) {d : Nat} {a0 : Nat} {x1 : Int32} {x2 : Int32} {τ37 : Int32 × Int32} {μ0 : o_Mem} {K : (Nat × (Int32 × Int32)) → o_Mem → Prop} {Q : Option Value → o_Mem → Prop} (h0 : o_is X a0 (.inl 12)) (h : o_Post (fX12_isJust_s37 (o_rf X) a0 x1 x2 τ37 μ0) K) (kh : ∀ (τ37 : Int32 × Int32) (μ : o_Mem), K (37, τ37) μ → o_Ev X (d + 2) mX12_isJust 37 [some (.ref (o_ad X a0)), some (.int x1), some (.int x2), none, some (.int τ37.1), some (.int τ37.2)] [] μ Q) (k83 : ∀ (τ37 : Int32 × Int32) (μ : o_Mem), K (83, τ37) μ → o_Ev X (d + 2) mX12_isJust 83 [some (.ref (o_ad X a0)), none, none, none, some (.int τ37.1), none] [] μ Q) : o_Ev X (d + 2) mX12_isJust 37 [some (.ref (o_ad X a0)), some (.int x1), some (.int x2), none, some (.int τ37.1), some (.int τ37.2)] [] μ0 Q := by
  unfold fX12_isJust_s37 at h
  refine s_iload dX12_isJust_37 rfl ?_
  refine s_iload_n (i := 2) dX12_isJust_39 rfl rfl ?_
  refine s_icmp_ge (tgt := 83) dX12_isJust_40 rfl (fun c1 => ?_) (fun c1 => ?_)
  · have h := o_if_t c1 h
    refine s_mask [true, false, false, false, true, false] (L' := [some (.ref (o_ad X a0)), none, none, none, some (.int τ37.1), none]) rfl ?_
    exact k83 (τ37.1, 0) _ (o_ret h)
  · have h := o_if_f c1 h
    refine s_iload dX12_isJust_43 rfl ?_
    refine s_if_eq (tgt := 83) dX12_isJust_45 rfl (fun c1 => ?_) (fun c1 => ?_)
    · have h := o_if_t c1 h
      refine s_mask [true, false, false, false, true, false] (L' := [some (.ref (o_ad X a0)), none, none, none, some (.int τ37.1), none]) rfl ?_
      exact k83 (τ37.1, 0) _ (o_ret h)
    · have h := o_if_f c1 h
      refine s_aload_n (i := 0) dX12_isJust_48 rfl rfl ?_
      refine s_getR hX h0 flX12_7 rfl dX12_isJust_49 (fun (g1 : o_is X (o_rf X a0 0) (.inr (0, 3756))) => ?_)
      refine s_iload dX12_isJust_52 rfl ?_
      refine s_callSi (C := mX12_coverRow) (As := [.int τ37.2]) (rest := [.ref (o_ad X (o_rf X a0 0))]) (L0 := [some (.int τ37.2)]) clX12_311 dX12_isJust_54 rfl rfl (Nat.le_of_ble_eq_true rfl) (Nat.le_of_ble_eq_true rfl) (dnX12_coverRow hX  (o_bdp h)) (fun r1 μ1 h => ?_)
      refine s_iconst dX12_isJust_57 kI_4 ?_
      refine s_iadd dX12_isJust_58 ?_
      have hc := o_ck_c h
      have h := o_ck_k h
      refine s_ialdK g1 hc rfl dX12_isJust_59 ?_
      refine s_aload_n (i := 0) dX12_isJust_60 rfl rfl ?_
      refine s_iload_n (i := 1) dX12_isJust_61 rfl rfl ?_
      refine s_iload dX12_isJust_62 rfl ?_
      refine s_callVi (C := mX12_rowAt) (As := [.int x1, .int τ37.2]) (rest := [.int (μ1.1 (o_rf X a0 0) ((r1 + 4)).toNatClampNeg)]) (L0 := [some (.ref (o_ad X a0)), some (.int x1), some (.int τ37.2)]) hX h0 clX12_397 dX12_isJust_64 rfl rfl (Nat.le_of_ble_eq_true rfl) (Nat.le_of_ble_eq_true rfl) (dnX12_rowAt hX h0 (o_bdp h)) (fun r2 μ2 h => ?_)
      refine s_icmp_ne (tgt := 74) dX12_isJust_67 rfl (fun c1 => ?_) (fun c1 => ?_)
      · have h := o_if_f c1 h
        refine s_iconst dX12_isJust_74 kI_0 ?_
        refine s_istore dX12_isJust_75 (Nat.le_of_ble_eq_true rfl) rfl ?_
        refine s_iinc (v := (τ37.2 + 1)) dX12_isJust_77 rfl rfl (Nat.le_of_ble_eq_true rfl) rfl ?_
        refine s_goto (tgt := 37) dX12_isJust_80 rfl ?_
        refine s_mask [true, true, true, false, true, true] (L' := [some (.ref (o_ad X a0)), some (.int x1), some (.int x2), none, some (.int 0), some (.int (τ37.2 + 1))]) rfl ?_
        exact kh (0, (τ37.2 + 1)) _ (o_ret h)
      · have h := o_if_t c1 h
        refine s_iconst dX12_isJust_70 kI_1 ?_
        refine s_goto (tgt := 75) dX12_isJust_71 rfl ?_
        refine s_istore dX12_isJust_75 (Nat.le_of_ble_eq_true rfl) rfl ?_
        refine s_iinc (v := (τ37.2 + 1)) dX12_isJust_77 rfl rfl (Nat.le_of_ble_eq_true rfl) rfl ?_
        refine s_goto (tgt := 37) dX12_isJust_80 rfl ?_
        refine s_mask [true, true, true, false, true, true] (L' := [some (.ref (o_ad X a0)), some (.int x1), some (.int x2), none, some (.int 1), some (.int (τ37.2 + 1))]) rfl ?_
        exact kh (1, (τ37.2 + 1)) _ (o_ret h)
set_option maxRecDepth 20000 in
theorem dnX12_isJust_j94 {X : o_Cx} (hX : o_ok X) {d : Nat} {b0 : Nat} {y1 : Int32} {μ0 : o_Mem} {q : Int32 → o_Mem → Prop} (hb0 : o_is X b0 (.inl 12)) (h : o_Post (fX12_isJust_j94 (o_rf X) b0 y1 μ0) q) : o_Ev X (d + 2) mX12_isJust 94 [none, none, none, none, none, none] [.int y1, .ref (o_ad X b0)] μ0 (o_QI q) := by
  unfold fX12_isJust_j94 at h
  refine s_callVi (C := mX12_gives) (As := [.int y1]) (rest := []) (L0 := [some (.ref (o_ad X b0)), some (.int y1)]) hX hb0 clX12_91 dX12_isJust_94 rfl rfl (Nat.le_of_ble_eq_true rfl) (Nat.le_of_ble_eq_true rfl) (dnX12_gives hX hb0 (o_bdp h)) (fun r1 μ1 h => ?_)
  exact s_ireturn rfl dX12_isJust_97 ⟨_, rfl, o_ret h⟩
set_option maxRecDepth 20000 in
theorem dnX12_isJust_j83 {X : o_Cx} (hX : o_ok X) {d : Nat} {a0 : Nat} {x4 : Int32} {μ0 : o_Mem} {q : Int32 → o_Mem → Prop} (h0 : o_is X a0 (.inl 12)) (h : o_Post (fX12_isJust_j83 (o_rf X) a0 x4 μ0) q) : o_Ev X (d + 2) mX12_isJust 83 [some (.ref (o_ad X a0)), none, none, none, some (.int x4), none] [] μ0 (o_QI q) := by
  unfold fX12_isJust_j83 at h
  refine s_aload_n (i := 0) dX12_isJust_83 rfl rfl ?_
  refine s_iload dX12_isJust_84 rfl ?_
  refine s_if_eq (tgt := 93) dX12_isJust_86 rfl (fun c1 => ?_) (fun c1 => ?_)
  · have h := o_if_t c1 h
    refine s_iconst dX12_isJust_93 kI_0 ?_
    refine s_mask [false, false, false, false, false, false] (L' := [none, none, none, none, none, none]) rfl ?_
    exact dnX12_isJust_j94 hX h0 h
  · have h := o_if_f c1 h
    refine s_iconst dX12_isJust_89 kI_1 ?_
    refine s_goto (tgt := 94) dX12_isJust_90 rfl ?_
    refine s_mask [false, false, false, false, false, false] (L' := [none, none, none, none, none, none]) rfl ?_
    exact dnX12_isJust_j94 hX h0 h
set_option maxRecDepth 20000 in
theorem dnX12_isJust {X : o_Cx} (hX : o_ok X) {d : Nat} {a0 : Nat} {x1 : Int32} {x2 : Int32} {μ0 : o_Mem} {q : Int32 → o_Mem → Prop} (h0 : o_is X a0 (.inl 12)) (h : o_Post (fX12_isJust (o_rf X) a0 x1 x2 μ0) q) : o_Ev X (d + 2) mX12_isJust 0 [some (.ref (o_ad X a0)), some (.int x1), some (.int x2), none, none, none] [] μ0 (o_QI q) := by
  unfold fX12_isJust at h
  refine s_aload_n (i := 0) dX12_isJust_0 rfl rfl ?_
  refine s_iload_n (i := 1) dX12_isJust_1 rfl rfl ?_
  refine s_iload_n (i := 2) dX12_isJust_2 rfl rfl ?_
  refine s_callVi (C := mX12_wrongRow) (As := [.int x1, .int x2]) (rest := []) (L0 := [some (.ref (o_ad X a0)), some (.int x1), some (.int x2), none]) hX h0 clX12_394 dX12_isJust_3 rfl rfl (Nat.le_of_ble_eq_true rfl) (Nat.le_of_ble_eq_true rfl) (dnX12_wrongRow hX h0 (o_bdp h)) (fun r1 μ1 h => ?_)
  refine s_istore_n (i := 3) dX12_isJust_6 rfl (Nat.le_of_ble_eq_true rfl) rfl ?_
  refine s_iload_n (i := 3) dX12_isJust_7 rfl rfl ?_
  refine s_if_le (tgt := 17) dX12_isJust_8 rfl (fun c1 => ?_) (fun c1 => ?_)
  · have h := o_if_t c1 h
    refine s_aload_n (i := 0) dX12_isJust_17 rfl rfl ?_
    refine s_getR hX h0 flX12_7 rfl dX12_isJust_18 (fun (g1 : o_is X (o_rf X a0 0) (.inr (0, 3756))) => ?_)
    refine s_iconst dX12_isJust_21 kI_5 ?_
    refine s_ialdK g1 ⟨by decide, by decide⟩ kN_5 dX12_isJust_22 ?_
    refine s_iload_n (i := 2) dX12_isJust_23 rfl rfl ?_
    refine s_icmp_ne (tgt := 31) dX12_isJust_24 rfl (fun c1 => ?_) (fun c1 => ?_)
    · have h := o_if_f c1 h
      refine s_iconst dX12_isJust_31 kI_0 ?_
      refine s_istore dX12_isJust_32 (Nat.le_of_ble_eq_true rfl) rfl ?_
      refine s_iconst dX12_isJust_34 kI_0 ?_
      refine s_istore dX12_isJust_35 (Nat.le_of_ble_eq_true rfl) rfl ?_
      refine s_mask [true, true, true, false, true, true] (L' := [some (.ref (o_ad X a0)), some (.int x1), some (.int x2), none, some (.int 0), some (.int 0)]) rfl ?_
      refine o_lp_ev (fun τ37 => [some (.ref (o_ad X a0)), some (.int x1), some (.int x2), none, some (.int τ37.1), some (.int τ37.2)]) (fun τ37 μ _K h kv ke37 => dnX12_isJust_s37 hX h0 h kv (fun τ37 μ2 h => ?_)) o_fuel (0, 0) μ1 (o_bdp h)
      · have h := o_if_t rfl (ke37 (83, τ37) μ2 (o_ne rfl) h)
        refine s_mask [true, false, false, false, true, false] (L' := [some (.ref (o_ad X a0)), none, none, none, some (.int τ37.1), none]) rfl ?_
        exact dnX12_isJust_j83 hX h0 h
    · have h := o_if_t c1 h
      refine s_iconst dX12_isJust_27 kI_1 ?_
      refine s_goto (tgt := 32) dX12_isJust_28 rfl ?_
      refine s_istore dX12_isJust_32 (Nat.le_of_ble_eq_true rfl) rfl ?_
      refine s_iconst dX12_isJust_34 kI_0 ?_
      refine s_istore dX12_isJust_35 (Nat.le_of_ble_eq_true rfl) rfl ?_
      refine s_mask [true, true, true, false, true, true] (L' := [some (.ref (o_ad X a0)), some (.int x1), some (.int x2), none, some (.int 1), some (.int 0)]) rfl ?_
      refine o_lp_ev (fun τ37 => [some (.ref (o_ad X a0)), some (.int x1), some (.int x2), none, some (.int τ37.1), some (.int τ37.2)]) (fun τ37 μ _K h kv ke37 => dnX12_isJust_s37 hX h0 h kv (fun τ37 μ3 h => ?_)) o_fuel (1, 0) μ1 (o_bdp h)
      · have h := o_if_t rfl (ke37 (83, τ37) μ3 (o_ne rfl) h)
        refine s_mask [true, false, false, false, true, false] (L' := [some (.ref (o_ad X a0)), none, none, none, some (.int τ37.1), none]) rfl ?_
        exact dnX12_isJust_j83 hX h0 h
  · have h := o_if_f c1 h
    refine s_aload_n (i := 0) dX12_isJust_11 rfl rfl ?_
    refine s_iload_n (i := 3) dX12_isJust_12 rfl rfl ?_
    refine s_callVi (C := mX12_refuse) (As := [.int r1]) (rest := []) (L0 := [some (.ref (o_ad X a0)), some (.int r1)]) hX h0 clX12_87 dX12_isJust_13 rfl rfl (Nat.le_of_ble_eq_true rfl) (Nat.le_of_ble_eq_true rfl) (dnX12_refuse hX h0 (o_bdp h)) (fun r2 μ4 h => ?_)
    exact s_ireturn rfl dX12_isJust_16 ⟨_, rfl, o_ret h⟩
theorem dX12_copyDay_0 : decode cX12_copyDay 0 = .ok (.iload_n 1, 1) := by decide +kernel
theorem dX12_copyDay_1 : decode cX12_copyDay 1 = .ok (.invokestatic 98, 3) := by decide +kernel
theorem dX12_copyDay_4 : decode cX12_copyDay 4 = .ok (.ifCond .ne 9, 3) := by decide +kernel
theorem dX12_copyDay_7 : decode cX12_copyDay 7 = .ok (.aload_n 0, 1) := by decide +kernel
theorem dX12_copyDay_8 : decode cX12_copyDay 8 = .ok (.iconst 1, 1) := by decide +kernel
theorem dX12_copyDay_9 : decode cX12_copyDay 9 = .ok (.invokevirtual 87, 3) := by decide +kernel
theorem dX12_copyDay_12 : decode cX12_copyDay 12 = .ok (.ireturn, 1) := by decide +kernel
theorem dX12_copyDay_13 : decode cX12_copyDay 13 = .ok (.aload_n 0, 1) := by decide +kernel
theorem dX12_copyDay_14 : decode cX12_copyDay 14 = .ok (.getfield 24, 3) := by decide +kernel
theorem dX12_copyDay_17 : decode cX12_copyDay 17 = .ok (.iload_n 1, 1) := by decide +kernel
theorem dX12_copyDay_18 : decode cX12_copyDay 18 = .ok (.iaload, 1) := by decide +kernel
theorem dX12_copyDay_19 : decode cX12_copyDay 19 = .ok (.iconst (-1), 1) := by decide +kernel
theorem dX12_copyDay_20 : decode cX12_copyDay 20 = .ok (.if_icmp .ne 9, 3) := by decide +kernel
theorem dX12_copyDay_23 : decode cX12_copyDay 23 = .ok (.aload_n 0, 1) := by decide +kernel
theorem dX12_copyDay_24 : decode cX12_copyDay 24 = .ok (.iconst 2, 1) := by decide +kernel
theorem dX12_copyDay_25 : decode cX12_copyDay 25 = .ok (.invokevirtual 87, 3) := by decide +kernel
theorem dX12_copyDay_28 : decode cX12_copyDay 28 = .ok (.ireturn, 1) := by decide +kernel
theorem dX12_copyDay_29 : decode cX12_copyDay 29 = .ok (.aload_n 0, 1) := by decide +kernel
theorem dX12_copyDay_30 : decode cX12_copyDay 30 = .ok (.getfield 24, 3) := by decide +kernel
theorem dX12_copyDay_33 : decode cX12_copyDay 33 = .ok (.iload_n 1, 1) := by decide +kernel
theorem dX12_copyDay_34 : decode cX12_copyDay 34 = .ok (.iaload, 1) := by decide +kernel
theorem dX12_copyDay_35 : decode cX12_copyDay 35 = .ok (.aload_n 0, 1) := by decide +kernel
theorem dX12_copyDay_36 : decode cX12_copyDay 36 = .ok (.getfield 7, 3) := by decide +kernel
theorem dX12_copyDay_39 : decode cX12_copyDay 39 = .ok (.iconst 5, 1) := by decide +kernel
theorem dX12_copyDay_40 : decode cX12_copyDay 40 = .ok (.iaload, 1) := by decide +kernel
theorem dX12_copyDay_41 : decode cX12_copyDay 41 = .ok (.if_icmp .ge 9, 3) := by decide +kernel
theorem dX12_copyDay_44 : decode cX12_copyDay 44 = .ok (.aload_n 0, 1) := by decide +kernel
theorem dX12_copyDay_45 : decode cX12_copyDay 45 = .ok (.iconst 3, 1) := by decide +kernel
theorem dX12_copyDay_46 : decode cX12_copyDay 46 = .ok (.invokevirtual 87, 3) := by decide +kernel
theorem dX12_copyDay_49 : decode cX12_copyDay 49 = .ok (.ireturn, 1) := by decide +kernel
theorem dX12_copyDay_50 : decode cX12_copyDay 50 = .ok (.iconst 0, 1) := by decide +kernel
theorem dX12_copyDay_51 : decode cX12_copyDay 51 = .ok (.istore_n 2, 1) := by decide +kernel
theorem dX12_copyDay_52 : decode cX12_copyDay 52 = .ok (.iload_n 2, 1) := by decide +kernel
theorem dX12_copyDay_53 : decode cX12_copyDay 53 = .ok (.aload_n 0, 1) := by decide +kernel
theorem dX12_copyDay_54 : decode cX12_copyDay 54 = .ok (.getfield 7, 3) := by decide +kernel
theorem dX12_copyDay_57 : decode cX12_copyDay 57 = .ok (.iconst 5, 1) := by decide +kernel
theorem dX12_copyDay_58 : decode cX12_copyDay 58 = .ok (.iaload, 1) := by decide +kernel
theorem dX12_copyDay_59 : decode cX12_copyDay 59 = .ok (.if_icmp .ge 41, 3) := by decide +kernel
theorem dX12_copyDay_62 : decode cX12_copyDay 62 = .ok (.aload_n 0, 1) := by decide +kernel
theorem dX12_copyDay_63 : decode cX12_copyDay 63 = .ok (.getfield 27, 3) := by decide +kernel
theorem dX12_copyDay_66 : decode cX12_copyDay 66 = .ok (.bipush 60, 2) := by decide +kernel
theorem dX12_copyDay_68 : decode cX12_copyDay 68 = .ok (.iload_n 1, 1) := by decide +kernel
theorem dX12_copyDay_69 : decode cX12_copyDay 69 = .ok (.imul, 1) := by decide +kernel
theorem dX12_copyDay_70 : decode cX12_copyDay 70 = .ok (.iload_n 2, 1) := by decide +kernel
theorem dX12_copyDay_71 : decode cX12_copyDay 71 = .ok (.iadd, 1) := by decide +kernel
theorem dX12_copyDay_72 : decode cX12_copyDay 72 = .ok (.aload_n 0, 1) := by decide +kernel
theorem dX12_copyDay_73 : decode cX12_copyDay 73 = .ok (.getfield 7, 3) := by decide +kernel
theorem dX12_copyDay_76 : decode cX12_copyDay 76 = .ok (.iload_n 2, 1) := by decide +kernel
theorem dX12_copyDay_77 : decode cX12_copyDay 77 = .ok (.invokestatic 311, 3) := by decide +kernel
theorem dX12_copyDay_80 : decode cX12_copyDay 80 = .ok (.iconst 4, 1) := by decide +kernel
theorem dX12_copyDay_81 : decode cX12_copyDay 81 = .ok (.iadd, 1) := by decide +kernel
theorem dX12_copyDay_82 : decode cX12_copyDay 82 = .ok (.iaload, 1) := by decide +kernel
theorem dX12_copyDay_83 : decode cX12_copyDay 83 = .ok (.i2l, 1) := by decide +kernel
theorem dX12_copyDay_84 : decode cX12_copyDay 84 = .ok (.aload_n 0, 1) := by decide +kernel
theorem dX12_copyDay_85 : decode cX12_copyDay 85 = .ok (.getfield 21, 3) := by decide +kernel
theorem dX12_copyDay_88 : decode cX12_copyDay 88 = .ok (.iload_n 1, 1) := by decide +kernel
theorem dX12_copyDay_89 : decode cX12_copyDay 89 = .ok (.iaload, 1) := by decide +kernel
theorem dX12_copyDay_90 : decode cX12_copyDay 90 = .ok (.invokestatic 105, 3) := by decide +kernel
theorem dX12_copyDay_93 : decode cX12_copyDay 93 = .ok (.lastore, 1) := by decide +kernel
theorem dX12_copyDay_94 : decode cX12_copyDay 94 = .ok (.iinc 2 1, 3) := by decide +kernel
theorem dX12_copyDay_97 : decode cX12_copyDay 97 = .ok (.goto (-45), 3) := by decide +kernel
theorem dX12_copyDay_100 : decode cX12_copyDay 100 = .ok (.aload_n 0, 1) := by decide +kernel
theorem dX12_copyDay_101 : decode cX12_copyDay 101 = .ok (.aload_n 0, 1) := by decide +kernel
theorem dX12_copyDay_102 : decode cX12_copyDay 102 = .ok (.getfield 7, 3) := by decide +kernel
theorem dX12_copyDay_105 : decode cX12_copyDay 105 = .ok (.iconst 5, 1) := by decide +kernel
theorem dX12_copyDay_106 : decode cX12_copyDay 106 = .ok (.iaload, 1) := by decide +kernel
theorem dX12_copyDay_107 : decode cX12_copyDay 107 = .ok (.invokevirtual 91, 3) := by decide +kernel
theorem dX12_copyDay_110 : decode cX12_copyDay 110 = .ok (.ireturn, 1) := by decide +kernel
noncomputable def fX12_copyDay_s52 (rf : Nat → Nat → Nat) (a0 : Nat) (x1 : Int32) (τ52 : Int32) (μ0 : o_Mem) : Option ((Nat × (Int32)) × o_Mem) :=
  if (μ0.1 (rf a0 0) 5) ≤ τ52 then (
    some ((100, 0), μ0))
  else (
    o_bd (fX12_coverRow rf τ52 μ0) fun r1 μ1 =>
    o_ck (0 ≤ ((r1 + 4)).toInt ∧ ((r1 + 4)).toInt < 3756) <|
    o_ck (0 ≤ (x1).toInt ∧ (x1).toInt < 4) <|
    o_bd (fX12_cut rf ((μ1.1 (rf a0 0) ((r1 + 4)).toNatClampNeg).toInt64) (μ1.1 (rf a0 5) x1.toNatClampNeg) μ1) fun r2 μ2 =>
    o_ck (0 ≤ (((60 * x1) + τ52)).toInt ∧ (((60 * x1) + τ52)).toInt < 240) <|
    o_seq (o_wL μ2 (rf a0 7) ((((60 * x1) + τ52)).toNatClampNeg) r2) fun μ3 =>
    some ((52, (τ52 + 1)), μ3))
noncomputable def fX12_copyDay (rf : Nat → Nat → Nat) (a0 : Nat) (x1 : Int32) (μ0 : o_Mem) : Option (Int32 × o_Mem) :=
  o_bd (fX12_isTray rf x1 μ0) fun r1 μ1 =>
  if r1 = 0 then (
    o_bd (fX12_refuse rf a0 1 μ1) fun r5 μ6 =>
    some (r5, μ6))
  else (
    o_ck (0 ≤ (x1).toInt ∧ (x1).toInt < 4) <|
    if (μ1.1 (rf a0 6) x1.toNatClampNeg) = (-1) then (
      o_bd (fX12_refuse rf a0 2 μ1) fun r4 μ5 =>
      some (r4, μ5))
    else (
      o_ck (0 ≤ (x1).toInt ∧ (x1).toInt < 4) <|
      if (μ1.1 (rf a0 0) 5) ≤ (μ1.1 (rf a0 6) x1.toNatClampNeg) then (
        o_bd (o_lp 52 (fX12_copyDay_s52 rf a0 x1) o_fuel (0 : Int32) μ1) fun ex2 μ2 =>
        if ex2.1 = 100 then (
          o_bd (fX12_gives rf a0 (μ2.1 (rf a0 0) 5) μ2) fun r2 μ3 =>
          some (r2, μ3))
        else
          none)
      else (
        o_bd (fX12_refuse rf a0 3 μ1) fun r3 μ4 =>
        some (r3, μ4))))
set_option maxRecDepth 20000 in
theorem dnX12_copyDay_s52 {X : o_Cx} (hX : o_ok X) {d : Nat} {a0 : Nat} {x1 : Int32} {τ52 : Int32} {μ0 : o_Mem} {K : (Nat × (Int32)) → o_Mem → Prop} {Q : Option Value → o_Mem → Prop} (h0 : o_is X a0 (.inl 12)) (h : o_Post (fX12_copyDay_s52 (o_rf X) a0 x1 τ52 μ0) K) (kh : ∀ (τ52 : Int32) (μ : o_Mem), K (52, τ52) μ → o_Ev X (d + 1) mX12_copyDay 52 [some (.ref (o_ad X a0)), some (.int x1), some (.int τ52)] [] μ Q) (k100 : ∀ (τ52 : Int32) (μ : o_Mem), K (100, τ52) μ → o_Ev X (d + 1) mX12_copyDay 100 [some (.ref (o_ad X a0)), none, none] [] μ Q) : o_Ev X (d + 1) mX12_copyDay 52 [some (.ref (o_ad X a0)), some (.int x1), some (.int τ52)] [] μ0 Q := by
  unfold fX12_copyDay_s52 at h
  refine s_iload_n (i := 2) dX12_copyDay_52 rfl rfl ?_
  refine s_aload_n (i := 0) dX12_copyDay_53 rfl rfl ?_
  refine s_getR hX h0 flX12_7 rfl dX12_copyDay_54 (fun (g1 : o_is X (o_rf X a0 0) (.inr (0, 3756))) => ?_)
  refine s_iconst dX12_copyDay_57 kI_5 ?_
  refine s_ialdK g1 ⟨by decide, by decide⟩ kN_5 dX12_copyDay_58 ?_
  refine s_icmp_ge (tgt := 100) dX12_copyDay_59 rfl (fun c1 => ?_) (fun c1 => ?_)
  · have h := o_if_t c1 h
    refine s_mask [true, false, false] (L' := [some (.ref (o_ad X a0)), none, none]) rfl ?_
    exact k100 0 _ (o_ret h)
  · have h := o_if_f c1 h
    refine s_aload_n (i := 0) dX12_copyDay_62 rfl rfl ?_
    refine s_getR hX h0 flX12_27 rfl dX12_copyDay_63 (fun (g2 : o_is X (o_rf X a0 7) (.inr (2, 240))) => ?_)
    refine s_bipush dX12_copyDay_66 kB_60 ?_
    refine s_iload_n (i := 1) dX12_copyDay_68 rfl rfl ?_
    refine s_imul dX12_copyDay_69 ?_
    refine s_iload_n (i := 2) dX12_copyDay_70 rfl rfl ?_
    refine s_iadd dX12_copyDay_71 ?_
    refine s_aload_n (i := 0) dX12_copyDay_72 rfl rfl ?_
    refine s_getR hX h0 flX12_7 rfl dX12_copyDay_73 (fun (g3 : o_is X (o_rf X a0 0) (.inr (0, 3756))) => ?_)
    refine s_iload_n (i := 2) dX12_copyDay_76 rfl rfl ?_
    refine s_callSi (C := mX12_coverRow) (As := [.int τ52]) (rest := [.ref (o_ad X (o_rf X a0 0)), .int ((60 * x1) + τ52), .ref (o_ad X (o_rf X a0 7))]) (L0 := [some (.int τ52)]) clX12_311 dX12_copyDay_77 rfl rfl (Nat.le_of_ble_eq_true rfl) (Nat.le_of_ble_eq_true rfl) (dnX12_coverRow hX  (o_bdp h)) (fun r1 μ1 h => ?_)
    refine s_iconst dX12_copyDay_80 kI_4 ?_
    refine s_iadd dX12_copyDay_81 ?_
    have hc := o_ck_c h
    have h := o_ck_k h
    refine s_ialdK g3 hc rfl dX12_copyDay_82 ?_
    refine s_i2l dX12_copyDay_83 ?_
    refine s_aload_n (i := 0) dX12_copyDay_84 rfl rfl ?_
    refine s_getR hX h0 flX12_21 rfl dX12_copyDay_85 (fun (g4 : o_is X (o_rf X a0 5) (.inr (0, 4))) => ?_)
    refine s_iload_n (i := 1) dX12_copyDay_88 rfl rfl ?_
    have hc := o_ck_c h
    have h := o_ck_k h
    refine s_ialdK g4 hc rfl dX12_copyDay_89 ?_
    refine s_callSl (C := mX12_cut) (As := [.long ((μ1.1 (o_rf X a0 0) ((r1 + 4)).toNatClampNeg).toInt64), .int (μ1.1 (o_rf X a0 5) x1.toNatClampNeg)]) (rest := [.int ((60 * x1) + τ52), .ref (o_ad X (o_rf X a0 7))]) (L0 := [some (.long ((μ1.1 (o_rf X a0 0) ((r1 + 4)).toNatClampNeg).toInt64)), none, some (.int (μ1.1 (o_rf X a0 5) x1.toNatClampNeg))]) clX12_105 dX12_copyDay_90 rfl rfl (Nat.le_of_ble_eq_true rfl) (Nat.le_of_ble_eq_true rfl) (dnX12_cut hX  (o_bdp h)) (fun r2 μ2 h => ?_)
    have hc := o_ck_c h
    have h := o_ck_k h
    refine s_lastK hX g2 hc rfl dX12_copyDay_93 (o_gen h (fun μ3 h => ?_))
    refine s_iinc (v := (τ52 + 1)) dX12_copyDay_94 rfl rfl (Nat.le_of_ble_eq_true rfl) rfl ?_
    refine s_goto (tgt := 52) dX12_copyDay_97 rfl ?_
    refine s_mask [true, true, true] (L' := [some (.ref (o_ad X a0)), some (.int x1), some (.int (τ52 + 1))]) rfl ?_
    exact kh (τ52 + 1) _ (o_ret h)
set_option maxRecDepth 20000 in
theorem dnX12_copyDay {X : o_Cx} (hX : o_ok X) {d : Nat} {a0 : Nat} {x1 : Int32} {μ0 : o_Mem} {q : Int32 → o_Mem → Prop} (h0 : o_is X a0 (.inl 12)) (h : o_Post (fX12_copyDay (o_rf X) a0 x1 μ0) q) : o_Ev X (d + 1) mX12_copyDay 0 [some (.ref (o_ad X a0)), some (.int x1), none] [] μ0 (o_QI q) := by
  unfold fX12_copyDay at h
  refine s_iload_n (i := 1) dX12_copyDay_0 rfl rfl ?_
  refine s_callSz (C := mX12_isTray) (As := [.int x1]) (rest := []) (L0 := [some (.int x1)]) clX12_98 dX12_copyDay_1 rfl rfl (Nat.le_of_ble_eq_true rfl) (Nat.le_of_ble_eq_true rfl) (dnX12_isTray hX  (o_bdp h)) (fun r1 μ1 zr1 h => ?_)
  refine s_if_ne (tgt := 13) dX12_copyDay_4 rfl (fun c1 => ?_) (fun c1 => ?_)
  · have h := o_if_f c1 h
    refine s_aload_n (i := 0) dX12_copyDay_13 rfl rfl ?_
    refine s_getR hX h0 flX12_24 rfl dX12_copyDay_14 (fun (g1 : o_is X (o_rf X a0 6) (.inr (0, 4))) => ?_)
    refine s_iload_n (i := 1) dX12_copyDay_17 rfl rfl ?_
    have hc := o_ck_c h
    have h := o_ck_k h
    refine s_ialdK g1 hc rfl dX12_copyDay_18 ?_
    refine s_iconst dX12_copyDay_19 kI_m1 ?_
    refine s_icmp_ne (tgt := 29) dX12_copyDay_20 rfl (fun c1 => ?_) (fun c1 => ?_)
    · have h := o_if_f c1 h
      refine s_aload_n (i := 0) dX12_copyDay_29 rfl rfl ?_
      refine s_getR hX h0 flX12_24 rfl dX12_copyDay_30 (fun (g2 : o_is X (o_rf X a0 6) (.inr (0, 4))) => ?_)
      refine s_iload_n (i := 1) dX12_copyDay_33 rfl rfl ?_
      have hc := o_ck_c h
      have h := o_ck_k h
      refine s_ialdK g2 hc rfl dX12_copyDay_34 ?_
      refine s_aload_n (i := 0) dX12_copyDay_35 rfl rfl ?_
      refine s_getR hX h0 flX12_7 rfl dX12_copyDay_36 (fun (g3 : o_is X (o_rf X a0 0) (.inr (0, 3756))) => ?_)
      refine s_iconst dX12_copyDay_39 kI_5 ?_
      refine s_ialdK g3 ⟨by decide, by decide⟩ kN_5 dX12_copyDay_40 ?_
      refine s_icmp_ge (tgt := 50) dX12_copyDay_41 rfl (fun c1 => ?_) (fun c1 => ?_)
      · have h := o_if_t c1 h
        refine s_iconst dX12_copyDay_50 kI_0 ?_
        refine s_istore_n (i := 2) dX12_copyDay_51 rfl (Nat.le_of_ble_eq_true rfl) rfl ?_
        refine s_mask [true, true, true] (L' := [some (.ref (o_ad X a0)), some (.int x1), some (.int 0)]) rfl ?_
        refine o_lp_ev (fun τ52 => [some (.ref (o_ad X a0)), some (.int x1), some (.int τ52)]) (fun τ52 μ _K h kv ke52 => dnX12_copyDay_s52 hX h0 h kv (fun τ52 μ2 h => ?_)) o_fuel 0 μ1 (o_bdp h)
        · have h := o_if_t rfl (ke52 (100, τ52) μ2 (o_ne rfl) h)
          refine s_aload_n (i := 0) dX12_copyDay_100 rfl rfl ?_
          refine s_aload_n (i := 0) dX12_copyDay_101 rfl rfl ?_
          refine s_getR hX h0 flX12_7 rfl dX12_copyDay_102 (fun (g4 : o_is X (o_rf X a0 0) (.inr (0, 3756))) => ?_)
          refine s_iconst dX12_copyDay_105 kI_5 ?_
          refine s_ialdK g4 ⟨by decide, by decide⟩ kN_5 dX12_copyDay_106 ?_
          refine s_callVi (C := mX12_gives) (As := [.int (μ2.1 (o_rf X a0 0) 5)]) (rest := []) (L0 := [some (.ref (o_ad X a0)), some (.int (μ2.1 (o_rf X a0 0) 5))]) hX h0 clX12_91 dX12_copyDay_107 rfl rfl (Nat.le_of_ble_eq_true rfl) (Nat.le_of_ble_eq_true rfl) (dnX12_gives hX h0 (o_bdp h)) (fun r2 μ3 h => ?_)
          exact s_ireturn rfl dX12_copyDay_110 ⟨_, rfl, o_ret h⟩
      · have h := o_if_f c1 h
        refine s_aload_n (i := 0) dX12_copyDay_44 rfl rfl ?_
        refine s_iconst dX12_copyDay_45 kI_3 ?_
        refine s_callVi (C := mX12_refuse) (As := [.int 3]) (rest := []) (L0 := [some (.ref (o_ad X a0)), some (.int 3)]) hX h0 clX12_87 dX12_copyDay_46 rfl rfl (Nat.le_of_ble_eq_true rfl) (Nat.le_of_ble_eq_true rfl) (dnX12_refuse hX h0 (o_bdp h)) (fun r3 μ4 h => ?_)
        exact s_ireturn rfl dX12_copyDay_49 ⟨_, rfl, o_ret h⟩
    · have h := o_if_t c1 h
      refine s_aload_n (i := 0) dX12_copyDay_23 rfl rfl ?_
      refine s_iconst dX12_copyDay_24 kI_2 ?_
      refine s_callVi (C := mX12_refuse) (As := [.int 2]) (rest := []) (L0 := [some (.ref (o_ad X a0)), some (.int 2)]) hX h0 clX12_87 dX12_copyDay_25 rfl rfl (Nat.le_of_ble_eq_true rfl) (Nat.le_of_ble_eq_true rfl) (dnX12_refuse hX h0 (o_bdp h)) (fun r4 μ5 h => ?_)
      exact s_ireturn rfl dX12_copyDay_28 ⟨_, rfl, o_ret h⟩
  · have h := o_if_t c1 h
    refine s_aload_n (i := 0) dX12_copyDay_7 rfl rfl ?_
    refine s_iconst dX12_copyDay_8 kI_1 ?_
    refine s_callVi (C := mX12_refuse) (As := [.int 1]) (rest := []) (L0 := [some (.ref (o_ad X a0)), some (.int 1)]) hX h0 clX12_87 dX12_copyDay_9 rfl rfl (Nat.le_of_ble_eq_true rfl) (Nat.le_of_ble_eq_true rfl) (dnX12_refuse hX h0 (o_bdp h)) (fun r5 μ6 h => ?_)
    exact s_ireturn rfl dX12_copyDay_12 ⟨_, rfl, o_ret h⟩
theorem dX12_findsLetter_0 : decode cX12_findsLetter 0 = .ok (.iload_n 2, 1) := by decide +kernel
theorem dX12_findsLetter_1 : decode cX12_findsLetter 1 = .ok (.istore_n 3, 1) := by decide +kernel
theorem dX12_findsLetter_2 : decode cX12_findsLetter 2 = .ok (.iload_n 3, 1) := by decide +kernel
theorem dX12_findsLetter_3 : decode cX12_findsLetter 3 = .ok (.aload_n 0, 1) := by decide +kernel
theorem dX12_findsLetter_4 : decode cX12_findsLetter 4 = .ok (.getfield 7, 3) := by decide +kernel
theorem dX12_findsLetter_7 : decode cX12_findsLetter 7 = .ok (.iconst 2, 1) := by decide +kernel
theorem dX12_findsLetter_8 : decode cX12_findsLetter 8 = .ok (.iaload, 1) := by decide +kernel
theorem dX12_findsLetter_9 : decode cX12_findsLetter 9 = .ok (.if_icmp .ge 98, 3) := by decide +kernel
theorem dX12_findsLetter_12 : decode cX12_findsLetter 12 = .ok (.iconst 0, 1) := by decide +kernel
theorem dX12_findsLetter_13 : decode cX12_findsLetter 13 = .ok (.istore 4, 2) := by decide +kernel
theorem dX12_findsLetter_15 : decode cX12_findsLetter 15 = .ok (.iload 4, 2) := by decide +kernel
theorem dX12_findsLetter_17 : decode cX12_findsLetter 17 = .ok (.aload_n 0, 1) := by decide +kernel
theorem dX12_findsLetter_18 : decode cX12_findsLetter 18 = .ok (.getfield 7, 3) := by decide +kernel
theorem dX12_findsLetter_21 : decode cX12_findsLetter 21 = .ok (.iconst 2, 1) := by decide +kernel
theorem dX12_findsLetter_22 : decode cX12_findsLetter 22 = .ok (.iaload, 1) := by decide +kernel
theorem dX12_findsLetter_23 : decode cX12_findsLetter 23 = .ok (.if_icmp .ge 78, 3) := by decide +kernel
theorem dX12_findsLetter_26 : decode cX12_findsLetter 26 = .ok (.iconst 1, 1) := by decide +kernel
theorem dX12_findsLetter_27 : decode cX12_findsLetter 27 = .ok (.istore 5, 2) := by decide +kernel
theorem dX12_findsLetter_29 : decode cX12_findsLetter 29 = .ok (.iload 5, 2) := by decide +kernel
theorem dX12_findsLetter_31 : decode cX12_findsLetter 31 = .ok (.bipush 99, 2) := by decide +kernel
theorem dX12_findsLetter_33 : decode cX12_findsLetter 33 = .ok (.if_icmp .gt 62, 3) := by decide +kernel
theorem dX12_findsLetter_36 : decode cX12_findsLetter 36 = .ok (.iload 4, 2) := by decide +kernel
theorem dX12_findsLetter_38 : decode cX12_findsLetter 38 = .ok (.iload_n 3, 1) := by decide +kernel
theorem dX12_findsLetter_39 : decode cX12_findsLetter 39 = .ok (.if_icmp .eq 56, 3) := by decide +kernel
theorem dX12_findsLetter_42 : decode cX12_findsLetter 42 = .ok (.aload_n 0, 1) := by decide +kernel
theorem dX12_findsLetter_43 : decode cX12_findsLetter 43 = .ok (.iload 4, 2) := by decide +kernel
theorem dX12_findsLetter_45 : decode cX12_findsLetter 45 = .ok (.iload_n 3, 1) := by decide +kernel
theorem dX12_findsLetter_46 : decode cX12_findsLetter 46 = .ok (.iload 5, 2) := by decide +kernel
theorem dX12_findsLetter_48 : decode cX12_findsLetter 48 = .ok (.aload_n 0, 1) := by decide +kernel
theorem dX12_findsLetter_49 : decode cX12_findsLetter 49 = .ok (.iload 4, 2) := by decide +kernel
theorem dX12_findsLetter_51 : decode cX12_findsLetter 51 = .ok (.invokevirtual 290, 3) := by decide +kernel
theorem dX12_findsLetter_54 : decode cX12_findsLetter 54 = .ok (.invokevirtual 325, 3) := by decide +kernel
theorem dX12_findsLetter_57 : decode cX12_findsLetter 57 = .ok (.iload_n 1, 1) := by decide +kernel
theorem dX12_findsLetter_58 : decode cX12_findsLetter 58 = .ok (.if_icmp .eq 6, 3) := by decide +kernel
theorem dX12_findsLetter_61 : decode cX12_findsLetter 61 = .ok (.goto 28, 3) := by decide +kernel
theorem dX12_findsLetter_64 : decode cX12_findsLetter 64 = .ok (.aload_n 0, 1) := by decide +kernel
theorem dX12_findsLetter_65 : decode cX12_findsLetter 65 = .ok (.getfield 56, 3) := by decide +kernel
theorem dX12_findsLetter_68 : decode cX12_findsLetter 68 = .ok (.iconst 0, 1) := by decide +kernel
theorem dX12_findsLetter_69 : decode cX12_findsLetter 69 = .ok (.iload 4, 2) := by decide +kernel
theorem dX12_findsLetter_71 : decode cX12_findsLetter 71 = .ok (.iastore, 1) := by decide +kernel
theorem dX12_findsLetter_72 : decode cX12_findsLetter 72 = .ok (.aload_n 0, 1) := by decide +kernel
theorem dX12_findsLetter_73 : decode cX12_findsLetter 73 = .ok (.getfield 56, 3) := by decide +kernel
theorem dX12_findsLetter_76 : decode cX12_findsLetter 76 = .ok (.iconst 1, 1) := by decide +kernel
theorem dX12_findsLetter_77 : decode cX12_findsLetter 77 = .ok (.iload_n 3, 1) := by decide +kernel
theorem dX12_findsLetter_78 : decode cX12_findsLetter 78 = .ok (.iastore, 1) := by decide +kernel
theorem dX12_findsLetter_79 : decode cX12_findsLetter 79 = .ok (.aload_n 0, 1) := by decide +kernel
theorem dX12_findsLetter_80 : decode cX12_findsLetter 80 = .ok (.getfield 56, 3) := by decide +kernel
theorem dX12_findsLetter_83 : decode cX12_findsLetter 83 = .ok (.iconst 2, 1) := by decide +kernel
theorem dX12_findsLetter_84 : decode cX12_findsLetter 84 = .ok (.iload 5, 2) := by decide +kernel
theorem dX12_findsLetter_86 : decode cX12_findsLetter 86 = .ok (.iastore, 1) := by decide +kernel
theorem dX12_findsLetter_87 : decode cX12_findsLetter 87 = .ok (.iconst 1, 1) := by decide +kernel
theorem dX12_findsLetter_88 : decode cX12_findsLetter 88 = .ok (.ireturn, 1) := by decide +kernel
theorem dX12_findsLetter_89 : decode cX12_findsLetter 89 = .ok (.iinc 5 1, 3) := by decide +kernel
theorem dX12_findsLetter_92 : decode cX12_findsLetter 92 = .ok (.goto (-63), 3) := by decide +kernel
theorem dX12_findsLetter_95 : decode cX12_findsLetter 95 = .ok (.iinc 4 1, 3) := by decide +kernel
theorem dX12_findsLetter_98 : decode cX12_findsLetter 98 = .ok (.goto (-83), 3) := by decide +kernel
theorem dX12_findsLetter_101 : decode cX12_findsLetter 101 = .ok (.iinc 3 1, 3) := by decide +kernel
theorem dX12_findsLetter_104 : decode cX12_findsLetter 104 = .ok (.goto (-102), 3) := by decide +kernel
theorem dX12_findsLetter_107 : decode cX12_findsLetter 107 = .ok (.iconst 0, 1) := by decide +kernel
theorem dX12_findsLetter_108 : decode cX12_findsLetter 108 = .ok (.ireturn, 1) := by decide +kernel
noncomputable def fX12_findsLetter_s29 (rf : Nat → Nat → Nat) (a0 : Nat) (x1 : Int32) (x3 : Int32) (x4 : Int32) (τ29 : Int32) (μ0 : o_Mem) : Option ((Nat × (Int32)) × o_Mem) :=
  if 99 < τ29 then (
    some ((95, 0), μ0))
  else (
    if x4 = x3 then (
      some ((95, 0), μ0))
    else (
      o_bd (fX12_handOf rf a0 x4 μ0) fun r1 μ1 =>
      o_bd (fX12_sober rf a0 x4 x3 τ29 r1 μ1) fun r2 μ2 =>
      if r2 = x1 then (
        some ((64, τ29), μ2))
      else (
        some ((29, (τ29 + 1)), μ2))))
noncomputable def fX12_findsLetter_s15 (rf : Nat → Nat → Nat) (a0 : Nat) (x1 : Int32) (x3 : Int32) (τ15 : Int32 × Int32) (μ0 : o_Mem) : Option ((Nat × (Int32 × Int32)) × o_Mem) :=
  if (μ0.1 (rf a0 0) 2) ≤ τ15.1 then (
    some ((101, (0, 0)), μ0))
  else (
    o_bd (o_lp 29 (fX12_findsLetter_s29 rf a0 x1 x3 τ15.1) o_fuel (1 : Int32) μ0) fun ex1 μ1 =>
    if ex1.1 = 64 then (
      some ((64, (τ15.1, ex1.2)), μ1))
    else
    if ex1.1 = 95 then (
      some ((15, ((τ15.1 + 1), 0)), μ1))
    else
      none)
noncomputable def fX12_findsLetter_s2 (rf : Nat → Nat → Nat) (a0 : Nat) (x1 : Int32) (τ2 : Int32 × Int32 × Int32) (μ0 : o_Mem) : Option ((Nat × (Int32 × Int32 × Int32)) × o_Mem) :=
  if (μ0.1 (rf a0 0) 2) ≤ τ2.1 then (
    some ((107, (0, 0, 0)), μ0))
  else (
    o_bd (o_lp 15 (fX12_findsLetter_s15 rf a0 x1 τ2.1) o_fuel (0, 0) μ0) fun ex1 μ1 =>
    if ex1.1 = 64 then (
      some ((64, (τ2.1, ex1.2.1, ex1.2.2)), μ1))
    else
    if ex1.1 = 101 then (
      some ((2, ((τ2.1 + 1), 0, 0)), μ1))
    else
      none)
noncomputable def fX12_findsLetter (rf : Nat → Nat → Nat) (a0 : Nat) (x1 : Int32) (x2 : Int32) (μ0 : o_Mem) : Option (Int32 × o_Mem) :=
  o_bd (o_lp 2 (fX12_findsLetter_s2 rf a0 x1) o_fuel (x2, 0, 0) μ0) fun ex1 μ1 =>
  if ex1.1 = 64 then (
    o_seq (o_wI μ1 (rf a0 27) 0 ex1.2.2.1) fun μ2 =>
    o_seq (o_wI μ2 (rf a0 27) 1 ex1.2.1) fun μ3 =>
    o_seq (o_wI μ3 (rf a0 27) 2 ex1.2.2.2) fun μ4 =>
    some (1, μ4))
  else
  if ex1.1 = 107 then (
    some (0, μ1))
  else
    none
set_option maxRecDepth 20000 in
theorem dnX12_findsLetter_s29 {X : o_Cx} (hX : o_ok X) {d : Nat} {a0 : Nat} {x1 : Int32} {x3 : Int32} {x4 : Int32} {τ29 : Int32} {μ0 : o_Mem} {K : (Nat × (Int32)) → o_Mem → Prop} {Q : Option Value → o_Mem → Prop} (h0 : o_is X a0 (.inl 12)) (h : o_Post (fX12_findsLetter_s29 (o_rf X) a0 x1 x3 x4 τ29 μ0) K) (kh : ∀ (τ29 : Int32) (μ : o_Mem), K (29, τ29) μ → o_Ev X (d + 4) mX12_findsLetter 29 [some (.ref (o_ad X a0)), some (.int x1), none, some (.int x3), some (.int x4), some (.int τ29)] [] μ Q) (k64 : ∀ (τ29 : Int32) (μ : o_Mem), K (64, τ29) μ → o_Ev X (d + 4) mX12_findsLetter 64 [some (.ref (o_ad X a0)), none, none, some (.int x3), some (.int x4), some (.int τ29)] [] μ Q) (k95 : ∀ (τ29 : Int32) (μ : o_Mem), K (95, τ29) μ → o_Ev X (d + 4) mX12_findsLetter 95 [some (.ref (o_ad X a0)), some (.int x1), none, some (.int x3), some (.int x4), none] [] μ Q) : o_Ev X (d + 4) mX12_findsLetter 29 [some (.ref (o_ad X a0)), some (.int x1), none, some (.int x3), some (.int x4), some (.int τ29)] [] μ0 Q := by
  unfold fX12_findsLetter_s29 at h
  refine s_iload dX12_findsLetter_29 rfl ?_
  refine s_bipush dX12_findsLetter_31 kB_99 ?_
  refine s_icmp_gt (tgt := 95) dX12_findsLetter_33 rfl (fun c1 => ?_) (fun c1 => ?_)
  · have h := o_if_t c1 h
    refine s_mask [true, true, false, true, true, false] (L' := [some (.ref (o_ad X a0)), some (.int x1), none, some (.int x3), some (.int x4), none]) rfl ?_
    exact k95 0 _ (o_ret h)
  · have h := o_if_f c1 h
    refine s_iload dX12_findsLetter_36 rfl ?_
    refine s_iload_n (i := 3) dX12_findsLetter_38 rfl rfl ?_
    refine s_icmp_eq (tgt := 95) dX12_findsLetter_39 rfl (fun c1 => ?_) (fun c1 => ?_)
    · have h := o_if_t c1 h
      refine s_mask [true, true, false, true, true, false] (L' := [some (.ref (o_ad X a0)), some (.int x1), none, some (.int x3), some (.int x4), none]) rfl ?_
      exact k95 0 _ (o_ret h)
    · have h := o_if_f c1 h
      refine s_aload_n (i := 0) dX12_findsLetter_42 rfl rfl ?_
      refine s_iload dX12_findsLetter_43 rfl ?_
      refine s_iload_n (i := 3) dX12_findsLetter_45 rfl rfl ?_
      refine s_iload dX12_findsLetter_46 rfl ?_
      refine s_aload_n (i := 0) dX12_findsLetter_48 rfl rfl ?_
      refine s_iload dX12_findsLetter_49 rfl ?_
      refine s_callVi (C := mX12_handOf) (As := [.int x4]) (rest := [.int τ29, .int x3, .int x4, .ref (o_ad X a0)]) (L0 := [some (.ref (o_ad X a0)), some (.int x4)]) hX h0 clX12_290 dX12_findsLetter_51 rfl rfl (Nat.le_of_ble_eq_true rfl) (Nat.le_of_ble_eq_true rfl) (dnX12_handOf hX h0 (o_bdp h)) (fun r1 μ1 h => ?_)
      refine s_callVi (C := mX12_sober) (As := [.int x4, .int x3, .int τ29, .int r1]) (rest := []) (L0 := [some (.ref (o_ad X a0)), some (.int x4), some (.int x3), some (.int τ29), some (.int r1)]) hX h0 clX12_325 dX12_findsLetter_54 rfl rfl (Nat.le_of_ble_eq_true rfl) (Nat.le_of_ble_eq_true rfl) (dnX12_sober hX h0 (o_bdp h)) (fun r2 μ2 h => ?_)
      refine s_iload_n (i := 1) dX12_findsLetter_57 rfl rfl ?_
      refine s_icmp_eq (tgt := 64) dX12_findsLetter_58 rfl (fun c1 => ?_) (fun c1 => ?_)
      · have h := o_if_t c1 h
        refine s_mask [true, false, false, true, true, true] (L' := [some (.ref (o_ad X a0)), none, none, some (.int x3), some (.int x4), some (.int τ29)]) rfl ?_
        exact k64 τ29 _ (o_ret h)
      · have h := o_if_f c1 h
        refine s_goto (tgt := 89) dX12_findsLetter_61 rfl ?_
        refine s_iinc (v := (τ29 + 1)) dX12_findsLetter_89 rfl rfl (Nat.le_of_ble_eq_true rfl) rfl ?_
        refine s_goto (tgt := 29) dX12_findsLetter_92 rfl ?_
        refine s_mask [true, true, false, true, true, true] (L' := [some (.ref (o_ad X a0)), some (.int x1), none, some (.int x3), some (.int x4), some (.int (τ29 + 1))]) rfl ?_
        exact kh (τ29 + 1) _ (o_ret h)
set_option maxRecDepth 20000 in
theorem dnX12_findsLetter_s15 {X : o_Cx} (hX : o_ok X) {d : Nat} {a0 : Nat} {x1 : Int32} {x3 : Int32} {τ15 : Int32 × Int32} {μ0 : o_Mem} {K : (Nat × (Int32 × Int32)) → o_Mem → Prop} {Q : Option Value → o_Mem → Prop} (h0 : o_is X a0 (.inl 12)) (h : o_Post (fX12_findsLetter_s15 (o_rf X) a0 x1 x3 τ15 μ0) K) (kh : ∀ (τ15 : Int32 × Int32) (μ : o_Mem), K (15, τ15) μ → o_Ev X (d + 4) mX12_findsLetter 15 [some (.ref (o_ad X a0)), some (.int x1), none, some (.int x3), some (.int τ15.1), none] [] μ Q) (k64 : ∀ (τ15 : Int32 × Int32) (μ : o_Mem), K (64, τ15) μ → o_Ev X (d + 4) mX12_findsLetter 64 [some (.ref (o_ad X a0)), none, none, some (.int x3), some (.int τ15.1), some (.int τ15.2)] [] μ Q) (k101 : ∀ (τ15 : Int32 × Int32) (μ : o_Mem), K (101, τ15) μ → o_Ev X (d + 4) mX12_findsLetter 101 [some (.ref (o_ad X a0)), some (.int x1), none, some (.int x3), none, none] [] μ Q) : o_Ev X (d + 4) mX12_findsLetter 15 [some (.ref (o_ad X a0)), some (.int x1), none, some (.int x3), some (.int τ15.1), none] [] μ0 Q := by
  unfold fX12_findsLetter_s15 at h
  refine s_iload dX12_findsLetter_15 rfl ?_
  refine s_aload_n (i := 0) dX12_findsLetter_17 rfl rfl ?_
  refine s_getR hX h0 flX12_7 rfl dX12_findsLetter_18 (fun (g1 : o_is X (o_rf X a0 0) (.inr (0, 3756))) => ?_)
  refine s_iconst dX12_findsLetter_21 kI_2 ?_
  refine s_ialdK g1 ⟨by decide, by decide⟩ kN_2 dX12_findsLetter_22 ?_
  refine s_icmp_ge (tgt := 101) dX12_findsLetter_23 rfl (fun c1 => ?_) (fun c1 => ?_)
  · have h := o_if_t c1 h
    refine s_mask [true, true, false, true, false, false] (L' := [some (.ref (o_ad X a0)), some (.int x1), none, some (.int x3), none, none]) rfl ?_
    exact k101 (0, 0) _ (o_ret h)
  · have h := o_if_f c1 h
    refine s_iconst dX12_findsLetter_26 kI_1 ?_
    refine s_istore dX12_findsLetter_27 (Nat.le_of_ble_eq_true rfl) rfl ?_
    refine s_mask [true, true, false, true, true, true] (L' := [some (.ref (o_ad X a0)), some (.int x1), none, some (.int x3), some (.int τ15.1), some (.int 1)]) rfl ?_
    refine o_lp_ev (fun τ29 => [some (.ref (o_ad X a0)), some (.int x1), none, some (.int x3), some (.int τ15.1), some (.int τ29)]) (fun τ29 μ _K h kv ke29 => dnX12_findsLetter_s29 hX h0 h kv (fun τ29 μ1 h => ?_) (fun τ29 μ1 h => ?_)) o_fuel 1 μ0 (o_bdp h)
    · have h := o_if_t rfl (ke29 (64, τ29) μ1 (o_ne rfl) h)
      refine s_mask [true, false, false, true, true, true] (L' := [some (.ref (o_ad X a0)), none, none, some (.int x3), some (.int τ15.1), some (.int τ29)]) rfl ?_
      exact k64 (τ15.1, τ29) _ (o_ret h)
    · have h := o_if_t rfl (o_if_f (o_ne rfl) (ke29 (95, τ29) μ1 (o_ne rfl) h))
      refine s_iinc (v := (τ15.1 + 1)) dX12_findsLetter_95 rfl rfl (Nat.le_of_ble_eq_true rfl) rfl ?_
      refine s_goto (tgt := 15) dX12_findsLetter_98 rfl ?_
      refine s_mask [true, true, false, true, true, false] (L' := [some (.ref (o_ad X a0)), some (.int x1), none, some (.int x3), some (.int (τ15.1 + 1)), none]) rfl ?_
      exact kh ((τ15.1 + 1), 0) _ (o_ret h)
set_option maxRecDepth 20000 in
theorem dnX12_findsLetter_s2 {X : o_Cx} (hX : o_ok X) {d : Nat} {a0 : Nat} {x1 : Int32} {τ2 : Int32 × Int32 × Int32} {μ0 : o_Mem} {K : (Nat × (Int32 × Int32 × Int32)) → o_Mem → Prop} {Q : Option Value → o_Mem → Prop} (h0 : o_is X a0 (.inl 12)) (h : o_Post (fX12_findsLetter_s2 (o_rf X) a0 x1 τ2 μ0) K) (kh : ∀ (τ2 : Int32 × Int32 × Int32) (μ : o_Mem), K (2, τ2) μ → o_Ev X (d + 4) mX12_findsLetter 2 [some (.ref (o_ad X a0)), some (.int x1), none, some (.int τ2.1), none, none] [] μ Q) (k64 : ∀ (τ2 : Int32 × Int32 × Int32) (μ : o_Mem), K (64, τ2) μ → o_Ev X (d + 4) mX12_findsLetter 64 [some (.ref (o_ad X a0)), none, none, some (.int τ2.1), some (.int τ2.2.1), some (.int τ2.2.2)] [] μ Q) (k107 : ∀ (τ2 : Int32 × Int32 × Int32) (μ : o_Mem), K (107, τ2) μ → o_Ev X (d + 4) mX12_findsLetter 107 [none, none, none, none, none, none] [] μ Q) : o_Ev X (d + 4) mX12_findsLetter 2 [some (.ref (o_ad X a0)), some (.int x1), none, some (.int τ2.1), none, none] [] μ0 Q := by
  unfold fX12_findsLetter_s2 at h
  refine s_iload_n (i := 3) dX12_findsLetter_2 rfl rfl ?_
  refine s_aload_n (i := 0) dX12_findsLetter_3 rfl rfl ?_
  refine s_getR hX h0 flX12_7 rfl dX12_findsLetter_4 (fun (g1 : o_is X (o_rf X a0 0) (.inr (0, 3756))) => ?_)
  refine s_iconst dX12_findsLetter_7 kI_2 ?_
  refine s_ialdK g1 ⟨by decide, by decide⟩ kN_2 dX12_findsLetter_8 ?_
  refine s_icmp_ge (tgt := 107) dX12_findsLetter_9 rfl (fun c1 => ?_) (fun c1 => ?_)
  · have h := o_if_t c1 h
    refine s_mask [false, false, false, false, false, false] (L' := [none, none, none, none, none, none]) rfl ?_
    exact k107 (0, 0, 0) _ (o_ret h)
  · have h := o_if_f c1 h
    refine s_iconst dX12_findsLetter_12 kI_0 ?_
    refine s_istore dX12_findsLetter_13 (Nat.le_of_ble_eq_true rfl) rfl ?_
    refine s_mask [true, true, false, true, true, false] (L' := [some (.ref (o_ad X a0)), some (.int x1), none, some (.int τ2.1), some (.int 0), none]) rfl ?_
    refine o_lp_ev (fun τ15 => [some (.ref (o_ad X a0)), some (.int x1), none, some (.int τ2.1), some (.int τ15.1), none]) (fun τ15 μ _K h kv ke15 => dnX12_findsLetter_s15 hX h0 h kv (fun τ15 μ1 h => ?_) (fun τ15 μ1 h => ?_)) o_fuel (0, 0) μ0 (o_bdp h)
    · have h := o_if_t rfl (ke15 (64, τ15) μ1 (o_ne rfl) h)
      refine s_mask [true, false, false, true, true, true] (L' := [some (.ref (o_ad X a0)), none, none, some (.int τ2.1), some (.int τ15.1), some (.int τ15.2)]) rfl ?_
      exact k64 (τ2.1, τ15.1, τ15.2) _ (o_ret h)
    · have h := o_if_t rfl (o_if_f (o_ne rfl) (ke15 (101, τ15) μ1 (o_ne rfl) h))
      refine s_iinc (v := (τ2.1 + 1)) dX12_findsLetter_101 rfl rfl (Nat.le_of_ble_eq_true rfl) rfl ?_
      refine s_goto (tgt := 2) dX12_findsLetter_104 rfl ?_
      refine s_mask [true, true, false, true, false, false] (L' := [some (.ref (o_ad X a0)), some (.int x1), none, some (.int (τ2.1 + 1)), none, none]) rfl ?_
      exact kh ((τ2.1 + 1), 0, 0) _ (o_ret h)
set_option maxRecDepth 20000 in
theorem dnX12_findsLetter {X : o_Cx} (hX : o_ok X) {d : Nat} {a0 : Nat} {x1 : Int32} {x2 : Int32} {μ0 : o_Mem} {q : Int32 → o_Mem → Prop} (h0 : o_is X a0 (.inl 12)) (h : o_Post (fX12_findsLetter (o_rf X) a0 x1 x2 μ0) q) : o_Ev X (d + 4) mX12_findsLetter 0 [some (.ref (o_ad X a0)), some (.int x1), some (.int x2), none, none, none] [] μ0 (o_QZ q) := by
  unfold fX12_findsLetter at h
  refine s_iload_n (i := 2) dX12_findsLetter_0 rfl rfl ?_
  refine s_istore_n (i := 3) dX12_findsLetter_1 rfl (Nat.le_of_ble_eq_true rfl) rfl ?_
  refine s_mask [true, true, false, true, false, false] (L' := [some (.ref (o_ad X a0)), some (.int x1), none, some (.int x2), none, none]) rfl ?_
  refine o_lp_ev (fun τ2 => [some (.ref (o_ad X a0)), some (.int x1), none, some (.int τ2.1), none, none]) (fun τ2 μ _K h kv ke2 => dnX12_findsLetter_s2 hX h0 h kv (fun τ2 μ1 h => ?_) (fun τ2 μ1 h => ?_)) o_fuel (x2, 0, 0) μ0 (o_bdp h)
  · have h := o_if_t rfl (ke2 (64, τ2) μ1 (o_ne rfl) h)
    refine s_aload_n (i := 0) dX12_findsLetter_64 rfl rfl ?_
    refine s_getR hX h0 flX12_56 rfl dX12_findsLetter_65 (fun (g1 : o_is X (o_rf X a0 27) (.inr (0, 3))) => ?_)
    refine s_iconst dX12_findsLetter_68 kI_0 ?_
    refine s_iload dX12_findsLetter_69 rfl ?_
    refine s_iastK hX g1 ⟨by decide, by decide⟩ kN_0 dX12_findsLetter_71 (o_gen h (fun μ2 h => ?_))
    refine s_aload_n (i := 0) dX12_findsLetter_72 rfl rfl ?_
    refine s_getR hX h0 flX12_56 rfl dX12_findsLetter_73 (fun (g2 : o_is X (o_rf X a0 27) (.inr (0, 3))) => ?_)
    refine s_iconst dX12_findsLetter_76 kI_1 ?_
    refine s_iload_n (i := 3) dX12_findsLetter_77 rfl rfl ?_
    refine s_iastK hX g2 ⟨by decide, by decide⟩ kN_1 dX12_findsLetter_78 (o_gen h (fun μ3 h => ?_))
    refine s_aload_n (i := 0) dX12_findsLetter_79 rfl rfl ?_
    refine s_getR hX h0 flX12_56 rfl dX12_findsLetter_80 (fun (g3 : o_is X (o_rf X a0 27) (.inr (0, 3))) => ?_)
    refine s_iconst dX12_findsLetter_83 kI_2 ?_
    refine s_iload dX12_findsLetter_84 rfl ?_
    refine s_iastK hX g3 ⟨by decide, by decide⟩ kN_2 dX12_findsLetter_86 (o_gen h (fun μ4 h => ?_))
    refine s_iconst dX12_findsLetter_87 kI_1 ?_
    exact s_zreturn rfl (Or.inr rfl) dX12_findsLetter_88 ⟨_, rfl, (Or.inr rfl), o_ret h⟩
  · have h := o_if_t rfl (o_if_f (o_ne rfl) (ke2 (107, τ2) μ1 (o_ne rfl) h))
    refine s_iconst dX12_findsLetter_107 kI_0 ?_
    exact s_zreturn rfl (Or.inl rfl) dX12_findsLetter_108 ⟨_, rfl, (Or.inl rfl), o_ret h⟩
theorem dX12_spellsTo_0 : decode cX12_spellsTo 0 = .ok (.aload_n 0, 1) := by decide +kernel
theorem dX12_spellsTo_1 : decode cX12_spellsTo 1 = .ok (.getfield 56, 3) := by decide +kernel
theorem dX12_spellsTo_4 : decode cX12_spellsTo 4 = .ok (.iconst 1, 1) := by decide +kernel
theorem dX12_spellsTo_5 : decode cX12_spellsTo 5 = .ok (.iconst 0, 1) := by decide +kernel
theorem dX12_spellsTo_6 : decode cX12_spellsTo 6 = .ok (.iastore, 1) := by decide +kernel
theorem dX12_spellsTo_7 : decode cX12_spellsTo 7 = .ok (.iconst 0, 1) := by decide +kernel
theorem dX12_spellsTo_8 : decode cX12_spellsTo 8 = .ok (.istore_n 3, 1) := by decide +kernel
theorem dX12_spellsTo_9 : decode cX12_spellsTo 9 = .ok (.iload_n 3, 1) := by decide +kernel
theorem dX12_spellsTo_10 : decode cX12_spellsTo 10 = .ok (.iload_n 2, 1) := by decide +kernel
theorem dX12_spellsTo_11 : decode cX12_spellsTo 11 = .ok (.if_icmp .ge 30, 3) := by decide +kernel
theorem dX12_spellsTo_14 : decode cX12_spellsTo 14 = .ok (.aload_n 0, 1) := by decide +kernel
theorem dX12_spellsTo_15 : decode cX12_spellsTo 15 = .ok (.aload_n 0, 1) := by decide +kernel
theorem dX12_spellsTo_16 : decode cX12_spellsTo 16 = .ok (.iload_n 1, 1) := by decide +kernel
theorem dX12_spellsTo_17 : decode cX12_spellsTo 17 = .ok (.iload_n 3, 1) := by decide +kernel
theorem dX12_spellsTo_18 : decode cX12_spellsTo 18 = .ok (.invokevirtual 397, 3) := by decide +kernel
theorem dX12_spellsTo_21 : decode cX12_spellsTo 21 = .ok (.aload_n 0, 1) := by decide +kernel
theorem dX12_spellsTo_22 : decode cX12_spellsTo 22 = .ok (.getfield 56, 3) := by decide +kernel
theorem dX12_spellsTo_25 : decode cX12_spellsTo 25 = .ok (.iconst 1, 1) := by decide +kernel
theorem dX12_spellsTo_26 : decode cX12_spellsTo 26 = .ok (.iaload, 1) := by decide +kernel
theorem dX12_spellsTo_27 : decode cX12_spellsTo 27 = .ok (.invokevirtual 400, 3) := by decide +kernel
theorem dX12_spellsTo_30 : decode cX12_spellsTo 30 = .ok (.ifCond .ne 5, 3) := by decide +kernel
theorem dX12_spellsTo_33 : decode cX12_spellsTo 33 = .ok (.iconst 0, 1) := by decide +kernel
theorem dX12_spellsTo_34 : decode cX12_spellsTo 34 = .ok (.ireturn, 1) := by decide +kernel
theorem dX12_spellsTo_35 : decode cX12_spellsTo 35 = .ok (.iinc 3 1, 3) := by decide +kernel
theorem dX12_spellsTo_38 : decode cX12_spellsTo 38 = .ok (.goto (-29), 3) := by decide +kernel
theorem dX12_spellsTo_41 : decode cX12_spellsTo 41 = .ok (.iconst 1, 1) := by decide +kernel
theorem dX12_spellsTo_42 : decode cX12_spellsTo 42 = .ok (.ireturn, 1) := by decide +kernel
noncomputable def fX12_spellsTo_s9 (rf : Nat → Nat → Nat) (a0 : Nat) (x1 : Int32) (x2 : Int32) (τ9 : Int32) (μ0 : o_Mem) : Option ((Nat × (Int32)) × o_Mem) :=
  if x2 ≤ τ9 then (
    some ((41, 0), μ0))
  else (
    o_bd (fX12_rowAt rf a0 x1 τ9 μ0) fun r1 μ1 =>
    o_bd (fX12_findsLetter rf a0 r1 (μ1.1 (rf a0 27) 1) μ1) fun r2 μ2 =>
    if r2 = 0 then (
      some ((33, 0), μ2))
    else (
      some ((9, (τ9 + 1)), μ2)))
noncomputable def fX12_spellsTo (rf : Nat → Nat → Nat) (a0 : Nat) (x1 : Int32) (x2 : Int32) (μ0 : o_Mem) : Option (Int32 × o_Mem) :=
  o_seq (o_wI μ0 (rf a0 27) 1 0) fun μ1 =>
  o_bd (o_lp 9 (fX12_spellsTo_s9 rf a0 x1 x2) o_fuel (0 : Int32) μ1) fun ex2 μ2 =>
  if ex2.1 = 33 then (
    some (0, μ2))
  else
  if ex2.1 = 41 then (
    some (1, μ2))
  else
    none
set_option maxRecDepth 20000 in
theorem dnX12_spellsTo_s9 {X : o_Cx} (hX : o_ok X) {d : Nat} {a0 : Nat} {x1 : Int32} {x2 : Int32} {τ9 : Int32} {μ0 : o_Mem} {K : (Nat × (Int32)) → o_Mem → Prop} {Q : Option Value → o_Mem → Prop} (h0 : o_is X a0 (.inl 12)) (h : o_Post (fX12_spellsTo_s9 (o_rf X) a0 x1 x2 τ9 μ0) K) (kh : ∀ (τ9 : Int32) (μ : o_Mem), K (9, τ9) μ → o_Ev X (d + 5) mX12_spellsTo 9 [some (.ref (o_ad X a0)), some (.int x1), some (.int x2), some (.int τ9)] [] μ Q) (k33 : ∀ (τ9 : Int32) (μ : o_Mem), K (33, τ9) μ → o_Ev X (d + 5) mX12_spellsTo 33 [none, none, none, none] [] μ Q) (k41 : ∀ (τ9 : Int32) (μ : o_Mem), K (41, τ9) μ → o_Ev X (d + 5) mX12_spellsTo 41 [none, none, none, none] [] μ Q) : o_Ev X (d + 5) mX12_spellsTo 9 [some (.ref (o_ad X a0)), some (.int x1), some (.int x2), some (.int τ9)] [] μ0 Q := by
  unfold fX12_spellsTo_s9 at h
  refine s_iload_n (i := 3) dX12_spellsTo_9 rfl rfl ?_
  refine s_iload_n (i := 2) dX12_spellsTo_10 rfl rfl ?_
  refine s_icmp_ge (tgt := 41) dX12_spellsTo_11 rfl (fun c1 => ?_) (fun c1 => ?_)
  · have h := o_if_t c1 h
    refine s_mask [false, false, false, false] (L' := [none, none, none, none]) rfl ?_
    exact k41 0 _ (o_ret h)
  · have h := o_if_f c1 h
    refine s_aload_n (i := 0) dX12_spellsTo_14 rfl rfl ?_
    refine s_aload_n (i := 0) dX12_spellsTo_15 rfl rfl ?_
    refine s_iload_n (i := 1) dX12_spellsTo_16 rfl rfl ?_
    refine s_iload_n (i := 3) dX12_spellsTo_17 rfl rfl ?_
    refine s_callVi (C := mX12_rowAt) (As := [.int x1, .int τ9]) (rest := [.ref (o_ad X a0)]) (L0 := [some (.ref (o_ad X a0)), some (.int x1), some (.int τ9)]) hX h0 clX12_397 dX12_spellsTo_18 rfl rfl (Nat.le_of_ble_eq_true rfl) (Nat.le_of_ble_eq_true rfl) (dnX12_rowAt hX h0 (o_bdp h)) (fun r1 μ1 h => ?_)
    refine s_aload_n (i := 0) dX12_spellsTo_21 rfl rfl ?_
    refine s_getR hX h0 flX12_56 rfl dX12_spellsTo_22 (fun (g1 : o_is X (o_rf X a0 27) (.inr (0, 3))) => ?_)
    refine s_iconst dX12_spellsTo_25 kI_1 ?_
    refine s_ialdK g1 ⟨by decide, by decide⟩ kN_1 dX12_spellsTo_26 ?_
    refine s_callVz (C := mX12_findsLetter) (As := [.int r1, .int (μ1.1 (o_rf X a0 27) 1)]) (rest := []) (L0 := [some (.ref (o_ad X a0)), some (.int r1), some (.int (μ1.1 (o_rf X a0 27) 1)), none, none, none]) hX h0 clX12_400 dX12_spellsTo_27 rfl rfl (Nat.le_of_ble_eq_true rfl) (Nat.le_of_ble_eq_true rfl) (dnX12_findsLetter hX h0 (o_bdp h)) (fun r2 μ2 zr2 h => ?_)
    refine s_if_ne (tgt := 35) dX12_spellsTo_30 rfl (fun c1 => ?_) (fun c1 => ?_)
    · have h := o_if_f c1 h
      refine s_iinc (v := (τ9 + 1)) dX12_spellsTo_35 rfl rfl (Nat.le_of_ble_eq_true rfl) rfl ?_
      refine s_goto (tgt := 9) dX12_spellsTo_38 rfl ?_
      refine s_mask [true, true, true, true] (L' := [some (.ref (o_ad X a0)), some (.int x1), some (.int x2), some (.int (τ9 + 1))]) rfl ?_
      exact kh (τ9 + 1) _ (o_ret h)
    · have h := o_if_t c1 h
      refine s_mask [false, false, false, false] (L' := [none, none, none, none]) rfl ?_
      exact k33 0 _ (o_ret h)
set_option maxRecDepth 20000 in
theorem dnX12_spellsTo {X : o_Cx} (hX : o_ok X) {d : Nat} {a0 : Nat} {x1 : Int32} {x2 : Int32} {μ0 : o_Mem} {q : Int32 → o_Mem → Prop} (h0 : o_is X a0 (.inl 12)) (h : o_Post (fX12_spellsTo (o_rf X) a0 x1 x2 μ0) q) : o_Ev X (d + 5) mX12_spellsTo 0 [some (.ref (o_ad X a0)), some (.int x1), some (.int x2), none] [] μ0 (o_QZ q) := by
  unfold fX12_spellsTo at h
  refine s_aload_n (i := 0) dX12_spellsTo_0 rfl rfl ?_
  refine s_getR hX h0 flX12_56 rfl dX12_spellsTo_1 (fun (g1 : o_is X (o_rf X a0 27) (.inr (0, 3))) => ?_)
  refine s_iconst dX12_spellsTo_4 kI_1 ?_
  refine s_iconst dX12_spellsTo_5 kI_0 ?_
  refine s_iastK hX g1 ⟨by decide, by decide⟩ kN_1 dX12_spellsTo_6 (o_gen h (fun μ1 h => ?_))
  refine s_iconst dX12_spellsTo_7 kI_0 ?_
  refine s_istore_n (i := 3) dX12_spellsTo_8 rfl (Nat.le_of_ble_eq_true rfl) rfl ?_
  refine s_mask [true, true, true, true] (L' := [some (.ref (o_ad X a0)), some (.int x1), some (.int x2), some (.int 0)]) rfl ?_
  refine o_lp_ev (fun τ9 => [some (.ref (o_ad X a0)), some (.int x1), some (.int x2), some (.int τ9)]) (fun τ9 μ _K h kv ke9 => dnX12_spellsTo_s9 hX h0 h kv (fun τ9 μ2 h => ?_) (fun τ9 μ2 h => ?_)) o_fuel 0 μ1 (o_bdp h)
  · have h := o_if_t rfl (ke9 (33, τ9) μ2 (o_ne rfl) h)
    refine s_iconst dX12_spellsTo_33 kI_0 ?_
    exact s_zreturn rfl (Or.inl rfl) dX12_spellsTo_34 ⟨_, rfl, (Or.inl rfl), o_ret h⟩
  · have h := o_if_t rfl (o_if_f (o_ne rfl) (ke9 (41, τ9) μ2 (o_ne rfl) h))
    refine s_iconst dX12_spellsTo_41 kI_1 ?_
    exact s_zreturn rfl (Or.inr rfl) dX12_spellsTo_42 ⟨_, rfl, (Or.inr rfl), o_ret h⟩
theorem dX12_spells_0 : decode cX12_spells 0 = .ok (.aload_n 0, 1) := by decide +kernel
theorem dX12_spells_1 : decode cX12_spells 1 = .ok (.iload_n 1, 1) := by decide +kernel
theorem dX12_spells_2 : decode cX12_spells 2 = .ok (.iload_n 2, 1) := by decide +kernel
theorem dX12_spells_3 : decode cX12_spells 3 = .ok (.invokevirtual 394, 3) := by decide +kernel
theorem dX12_spells_6 : decode cX12_spells 6 = .ok (.istore_n 3, 1) := by decide +kernel
theorem dX12_spells_7 : decode cX12_spells 7 = .ok (.iload_n 3, 1) := by decide +kernel
theorem dX12_spells_8 : decode cX12_spells 8 = .ok (.ifCond .le 11, 3) := by decide +kernel
theorem dX12_spells_11 : decode cX12_spells 11 = .ok (.aload_n 0, 1) := by decide +kernel
theorem dX12_spells_12 : decode cX12_spells 12 = .ok (.iload_n 3, 1) := by decide +kernel
theorem dX12_spells_13 : decode cX12_spells 13 = .ok (.invokevirtual 87, 3) := by decide +kernel
theorem dX12_spells_16 : decode cX12_spells 16 = .ok (.goto 21, 3) := by decide +kernel
theorem dX12_spells_19 : decode cX12_spells 19 = .ok (.aload_n 0, 1) := by decide +kernel
theorem dX12_spells_20 : decode cX12_spells 20 = .ok (.aload_n 0, 1) := by decide +kernel
theorem dX12_spells_21 : decode cX12_spells 21 = .ok (.iload_n 1, 1) := by decide +kernel
theorem dX12_spells_22 : decode cX12_spells 22 = .ok (.iload_n 2, 1) := by decide +kernel
theorem dX12_spells_23 : decode cX12_spells 23 = .ok (.invokevirtual 403, 3) := by decide +kernel
theorem dX12_spells_26 : decode cX12_spells 26 = .ok (.ifCond .eq 7, 3) := by decide +kernel
theorem dX12_spells_29 : decode cX12_spells 29 = .ok (.iconst 1, 1) := by decide +kernel
theorem dX12_spells_30 : decode cX12_spells 30 = .ok (.goto 4, 3) := by decide +kernel
theorem dX12_spells_33 : decode cX12_spells 33 = .ok (.iconst 0, 1) := by decide +kernel
theorem dX12_spells_34 : decode cX12_spells 34 = .ok (.invokevirtual 91, 3) := by decide +kernel
theorem dX12_spells_37 : decode cX12_spells 37 = .ok (.ireturn, 1) := by decide +kernel
noncomputable def fX12_spells_j34 (rf : Nat → Nat → Nat) (b0 : Nat) (y1 : Int32) (μ0 : o_Mem) : Option (Int32 × o_Mem) :=
  o_bd (fX12_gives rf b0 y1 μ0) fun r1 μ1 =>
  some (r1, μ1)
noncomputable def fX12_spells (rf : Nat → Nat → Nat) (a0 : Nat) (x1 : Int32) (x2 : Int32) (μ0 : o_Mem) : Option (Int32 × o_Mem) :=
  o_bd (fX12_wrongRow rf a0 x1 x2 μ0) fun r1 μ1 =>
  if r1 ≤ 0 then (
    o_bd (fX12_spellsTo rf a0 x1 x2 μ1) fun r2 μ2 =>
    if r2 = 0 then (
      fX12_spells_j34 rf a0 0 μ2)
    else (
      fX12_spells_j34 rf a0 1 μ2))
  else (
    o_bd (fX12_refuse rf a0 r1 μ1) fun r3 μ3 =>
    some (r3, μ3))
set_option maxRecDepth 20000 in
theorem dnX12_spells_j34 {X : o_Cx} (hX : o_ok X) {d : Nat} {b0 : Nat} {y1 : Int32} {μ0 : o_Mem} {q : Int32 → o_Mem → Prop} (hb0 : o_is X b0 (.inl 12)) (h : o_Post (fX12_spells_j34 (o_rf X) b0 y1 μ0) q) : o_Ev X (d + 6) mX12_spells 34 [none, none, none, none] [.int y1, .ref (o_ad X b0)] μ0 (o_QI q) := by
  unfold fX12_spells_j34 at h
  refine s_callVi (C := mX12_gives) (As := [.int y1]) (rest := []) (L0 := [some (.ref (o_ad X b0)), some (.int y1)]) hX hb0 clX12_91 dX12_spells_34 rfl rfl (Nat.le_of_ble_eq_true rfl) (Nat.le_of_ble_eq_true rfl) (dnX12_gives hX hb0 (o_bdp h)) (fun r1 μ1 h => ?_)
  exact s_ireturn rfl dX12_spells_37 ⟨_, rfl, o_ret h⟩
set_option maxRecDepth 20000 in
theorem dnX12_spells {X : o_Cx} (hX : o_ok X) {d : Nat} {a0 : Nat} {x1 : Int32} {x2 : Int32} {μ0 : o_Mem} {q : Int32 → o_Mem → Prop} (h0 : o_is X a0 (.inl 12)) (h : o_Post (fX12_spells (o_rf X) a0 x1 x2 μ0) q) : o_Ev X (d + 6) mX12_spells 0 [some (.ref (o_ad X a0)), some (.int x1), some (.int x2), none] [] μ0 (o_QI q) := by
  unfold fX12_spells at h
  refine s_aload_n (i := 0) dX12_spells_0 rfl rfl ?_
  refine s_iload_n (i := 1) dX12_spells_1 rfl rfl ?_
  refine s_iload_n (i := 2) dX12_spells_2 rfl rfl ?_
  refine s_callVi (C := mX12_wrongRow) (As := [.int x1, .int x2]) (rest := []) (L0 := [some (.ref (o_ad X a0)), some (.int x1), some (.int x2), none]) hX h0 clX12_394 dX12_spells_3 rfl rfl (Nat.le_of_ble_eq_true rfl) (Nat.le_of_ble_eq_true rfl) (dnX12_wrongRow hX h0 (o_bdp h)) (fun r1 μ1 h => ?_)
  refine s_istore_n (i := 3) dX12_spells_6 rfl (Nat.le_of_ble_eq_true rfl) rfl ?_
  refine s_iload_n (i := 3) dX12_spells_7 rfl rfl ?_
  refine s_if_le (tgt := 19) dX12_spells_8 rfl (fun c1 => ?_) (fun c1 => ?_)
  · have h := o_if_t c1 h
    refine s_aload_n (i := 0) dX12_spells_19 rfl rfl ?_
    refine s_aload_n (i := 0) dX12_spells_20 rfl rfl ?_
    refine s_iload_n (i := 1) dX12_spells_21 rfl rfl ?_
    refine s_iload_n (i := 2) dX12_spells_22 rfl rfl ?_
    refine s_callVz (C := mX12_spellsTo) (As := [.int x1, .int x2]) (rest := [.ref (o_ad X a0)]) (L0 := [some (.ref (o_ad X a0)), some (.int x1), some (.int x2), none]) hX h0 clX12_403 dX12_spells_23 rfl rfl (Nat.le_of_ble_eq_true rfl) (Nat.le_of_ble_eq_true rfl) (dnX12_spellsTo hX h0 (o_bdp h)) (fun r2 μ2 zr2 h => ?_)
    refine s_if_eq (tgt := 33) dX12_spells_26 rfl (fun c1 => ?_) (fun c1 => ?_)
    · have h := o_if_t c1 h
      refine s_iconst dX12_spells_33 kI_0 ?_
      refine s_mask [false, false, false, false] (L' := [none, none, none, none]) rfl ?_
      exact dnX12_spells_j34 hX h0 h
    · have h := o_if_f c1 h
      refine s_iconst dX12_spells_29 kI_1 ?_
      refine s_goto (tgt := 34) dX12_spells_30 rfl ?_
      refine s_mask [false, false, false, false] (L' := [none, none, none, none]) rfl ?_
      exact dnX12_spells_j34 hX h0 h
  · have h := o_if_f c1 h
    refine s_aload_n (i := 0) dX12_spells_11 rfl rfl ?_
    refine s_iload_n (i := 3) dX12_spells_12 rfl rfl ?_
    refine s_callVi (C := mX12_refuse) (As := [.int r1]) (rest := []) (L0 := [some (.ref (o_ad X a0)), some (.int r1)]) hX h0 clX12_87 dX12_spells_13 rfl rfl (Nat.le_of_ble_eq_true rfl) (Nat.le_of_ble_eq_true rfl) (dnX12_refuse hX h0 (o_bdp h)) (fun r3 μ3 h => ?_)
    refine s_goto (tgt := 37) dX12_spells_16 rfl ?_
    exact s_ireturn rfl dX12_spells_37 ⟨_, rfl, o_ret h⟩
