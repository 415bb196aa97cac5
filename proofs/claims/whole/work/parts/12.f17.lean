theorem dX12_isSign_0 : decode cX12_isSign 0 = .ok (.aload_n 0, 1) := by decide +kernel
theorem dX12_isSign_1 : decode cX12_isSign 1 = .ok (.getfield 132, 3) := by decide +kernel
theorem dX12_isSign_4 : decode cX12_isSign 4 = .ok (.iconst 4, 1) := by decide +kernel
theorem dX12_isSign_5 : decode cX12_isSign 5 = .ok (.if_icmp .ne 15, 3) := by decide +kernel
theorem dX12_isSign_8 : decode cX12_isSign 8 = .ok (.aload_n 0, 1) := by decide +kernel
theorem dX12_isSign_9 : decode cX12_isSign 9 = .ok (.getfield 129, 3) := by decide +kernel
theorem dX12_isSign_12 : decode cX12_isSign 12 = .ok (.iload_n 1, 1) := by decide +kernel
theorem dX12_isSign_13 : decode cX12_isSign 13 = .ok (.if_icmp .ne 7, 3) := by decide +kernel
theorem dX12_isSign_16 : decode cX12_isSign 16 = .ok (.iconst 1, 1) := by decide +kernel
theorem dX12_isSign_17 : decode cX12_isSign 17 = .ok (.goto 4, 3) := by decide +kernel
theorem dX12_isSign_20 : decode cX12_isSign 20 = .ok (.iconst 0, 1) := by decide +kernel
theorem dX12_isSign_21 : decode cX12_isSign 21 = .ok (.ireturn, 1) := by decide +kernel
noncomputable def fX12_isSign (rf : Nat → Nat → Nat) (a0 : Nat) (x1 : Int32) (μ0 : o_Mem) : Option (Int32 × o_Mem) :=
  if (μ0.1 a0 12) = 4 then (
    if (μ0.1 a0 15) = x1 then (
      some (1, μ0))
    else (
      some (0, μ0)))
  else (
    some (0, μ0))
set_option maxRecDepth 20000 in
theorem dnX12_isSign {X : o_Cx} (hX : o_ok X) {d : Nat} {a0 : Nat} {x1 : Int32} {μ0 : o_Mem} {q : Int32 → o_Mem → Prop} (h0 : o_is X a0 (.inl 12)) (h : o_Post (fX12_isSign (o_rf X) a0 x1 μ0) q) : o_Ev X (d + 0) mX12_isSign 0 [some (.ref (o_ad X a0)), some (.int x1)] [] μ0 (o_QZ q) := by
  unfold fX12_isSign at h
  refine s_aload_n (i := 0) dX12_isSign_0 rfl rfl ?_
  refine s_getI h0 flX12_132 rfl dX12_isSign_1 ?_
  refine s_iconst dX12_isSign_4 kI_4 ?_
  refine s_icmp_ne (tgt := 20) dX12_isSign_5 rfl (fun c1 => ?_) (fun c1 => ?_)
  · have h := o_if_f c1 h
    refine s_iconst dX12_isSign_20 kI_0 ?_
    exact s_zreturn rfl (Or.inl rfl) dX12_isSign_21 ⟨_, rfl, (Or.inl rfl), o_ret h⟩
  · have h := o_if_t c1 h
    refine s_aload_n (i := 0) dX12_isSign_8 rfl rfl ?_
    refine s_getI h0 flX12_129 rfl dX12_isSign_9 ?_
    refine s_iload_n (i := 1) dX12_isSign_12 rfl rfl ?_
    refine s_icmp_ne (tgt := 20) dX12_isSign_13 rfl (fun c1 => ?_) (fun c1 => ?_)
    · have h := o_if_f c1 h
      refine s_iconst dX12_isSign_20 kI_0 ?_
      exact s_zreturn rfl (Or.inl rfl) dX12_isSign_21 ⟨_, rfl, (Or.inl rfl), o_ret h⟩
    · have h := o_if_t c1 h
      refine s_iconst dX12_isSign_16 kI_1 ?_
      refine s_goto (tgt := 21) dX12_isSign_17 rfl ?_
      exact s_zreturn rfl (Or.inr rfl) dX12_isSign_21 ⟨_, rfl, (Or.inr rfl), o_ret h⟩
theorem dX12_inWords_0 : decode cX12_inWords 0 = .ok (.aload_n 0, 1) := by decide +kernel
theorem dX12_inWords_1 : decode cX12_inWords 1 = .ok (.getfield 132, 3) := by decide +kernel
theorem dX12_inWords_4 : decode cX12_inWords 4 = .ok (.iconst 2, 1) := by decide +kernel
theorem dX12_inWords_5 : decode cX12_inWords 5 = .ok (.if_icmp .eq 5, 3) := by decide +kernel
theorem dX12_inWords_8 : decode cX12_inWords 8 = .ok (.iconst (-1), 1) := by decide +kernel
theorem dX12_inWords_9 : decode cX12_inWords 9 = .ok (.ireturn, 1) := by decide +kernel
theorem dX12_inWords_10 : decode cX12_inWords 10 = .ok (.iconst 0, 1) := by decide +kernel
theorem dX12_inWords_11 : decode cX12_inWords 11 = .ok (.istore_n 2, 1) := by decide +kernel
theorem dX12_inWords_12 : decode cX12_inWords 12 = .ok (.iconst 1, 1) := by decide +kernel
theorem dX12_inWords_13 : decode cX12_inWords 13 = .ok (.istore_n 3, 1) := by decide +kernel
theorem dX12_inWords_14 : decode cX12_inWords 14 = .ok (.iload_n 3, 1) := by decide +kernel
theorem dX12_inWords_15 : decode cX12_inWords 15 = .ok (.aload_n 1, 1) := by decide +kernel
theorem dX12_inWords_16 : decode cX12_inWords 16 = .ok (.invokevirtual 147, 3) := by decide +kernel
theorem dX12_inWords_19 : decode cX12_inWords 19 = .ok (.if_icmp .ge 114, 3) := by decide +kernel
theorem dX12_inWords_22 : decode cX12_inWords 22 = .ok (.iload_n 3, 1) := by decide +kernel
theorem dX12_inWords_23 : decode cX12_inWords 23 = .ok (.istore 4, 2) := by decide +kernel
theorem dX12_inWords_25 : decode cX12_inWords 25 = .ok (.aload_n 1, 1) := by decide +kernel
theorem dX12_inWords_26 : decode cX12_inWords 26 = .ok (.iload 4, 2) := by decide +kernel
theorem dX12_inWords_28 : decode cX12_inWords 28 = .ok (.invokevirtual 153, 3) := by decide +kernel
theorem dX12_inWords_31 : decode cX12_inWords 31 = .ok (.bipush 32, 2) := by decide +kernel
theorem dX12_inWords_33 : decode cX12_inWords 33 = .ok (.if_icmp .eq 9, 3) := by decide +kernel
theorem dX12_inWords_36 : decode cX12_inWords 36 = .ok (.iinc 4 1, 3) := by decide +kernel
theorem dX12_inWords_39 : decode cX12_inWords 39 = .ok (.goto (-14), 3) := by decide +kernel
theorem dX12_inWords_42 : decode cX12_inWords 42 = .ok (.iload 4, 2) := by decide +kernel
theorem dX12_inWords_44 : decode cX12_inWords 44 = .ok (.iload_n 3, 1) := by decide +kernel
theorem dX12_inWords_45 : decode cX12_inWords 45 = .ok (.isub, 1) := by decide +kernel
theorem dX12_inWords_46 : decode cX12_inWords 46 = .ok (.aload_n 0, 1) := by decide +kernel
theorem dX12_inWords_47 : decode cX12_inWords 47 = .ok (.getfield 120, 3) := by decide +kernel
theorem dX12_inWords_50 : decode cX12_inWords 50 = .ok (.aload_n 0, 1) := by decide +kernel
theorem dX12_inWords_51 : decode cX12_inWords 51 = .ok (.getfield 126, 3) := by decide +kernel
theorem dX12_inWords_54 : decode cX12_inWords 54 = .ok (.isub, 1) := by decide +kernel
theorem dX12_inWords_55 : decode cX12_inWords 55 = .ok (.if_icmp .ne 7, 3) := by decide +kernel
theorem dX12_inWords_58 : decode cX12_inWords 58 = .ok (.iconst 1, 1) := by decide +kernel
theorem dX12_inWords_59 : decode cX12_inWords 59 = .ok (.goto 4, 3) := by decide +kernel
theorem dX12_inWords_62 : decode cX12_inWords 62 = .ok (.iconst 0, 1) := by decide +kernel
theorem dX12_inWords_63 : decode cX12_inWords 63 = .ok (.istore 5, 2) := by decide +kernel
theorem dX12_inWords_65 : decode cX12_inWords 65 = .ok (.iload_n 3, 1) := by decide +kernel
theorem dX12_inWords_66 : decode cX12_inWords 66 = .ok (.istore 6, 2) := by decide +kernel
theorem dX12_inWords_68 : decode cX12_inWords 68 = .ok (.iload 6, 2) := by decide +kernel
theorem dX12_inWords_70 : decode cX12_inWords 70 = .ok (.iload 4, 2) := by decide +kernel
theorem dX12_inWords_72 : decode cX12_inWords 72 = .ok (.if_icmp .ge 43, 3) := by decide +kernel
theorem dX12_inWords_75 : decode cX12_inWords 75 = .ok (.iload 5, 2) := by decide +kernel
theorem dX12_inWords_77 : decode cX12_inWords 77 = .ok (.ifCond .eq 38, 3) := by decide +kernel
theorem dX12_inWords_80 : decode cX12_inWords 80 = .ok (.aload_n 1, 1) := by decide +kernel
theorem dX12_inWords_81 : decode cX12_inWords 81 = .ok (.iload 6, 2) := by decide +kernel
theorem dX12_inWords_83 : decode cX12_inWords 83 = .ok (.invokevirtual 153, 3) := by decide +kernel
theorem dX12_inWords_86 : decode cX12_inWords 86 = .ok (.aload_n 0, 1) := by decide +kernel
theorem dX12_inWords_87 : decode cX12_inWords 87 = .ok (.aload_n 0, 1) := by decide +kernel
theorem dX12_inWords_88 : decode cX12_inWords 88 = .ok (.getfield 126, 3) := by decide +kernel
theorem dX12_inWords_91 : decode cX12_inWords 91 = .ok (.iload 6, 2) := by decide +kernel
theorem dX12_inWords_93 : decode cX12_inWords 93 = .ok (.iadd, 1) := by decide +kernel
theorem dX12_inWords_94 : decode cX12_inWords 94 = .ok (.iload_n 3, 1) := by decide +kernel
theorem dX12_inWords_95 : decode cX12_inWords 95 = .ok (.isub, 1) := by decide +kernel
theorem dX12_inWords_96 : decode cX12_inWords 96 = .ok (.invokevirtual 123, 3) := by decide +kernel
theorem dX12_inWords_99 : decode cX12_inWords 99 = .ok (.if_icmp .ne 7, 3) := by decide +kernel
theorem dX12_inWords_102 : decode cX12_inWords 102 = .ok (.iconst 1, 1) := by decide +kernel
theorem dX12_inWords_103 : decode cX12_inWords 103 = .ok (.goto 4, 3) := by decide +kernel
theorem dX12_inWords_106 : decode cX12_inWords 106 = .ok (.iconst 0, 1) := by decide +kernel
theorem dX12_inWords_107 : decode cX12_inWords 107 = .ok (.istore 5, 2) := by decide +kernel
theorem dX12_inWords_109 : decode cX12_inWords 109 = .ok (.iinc 6 1, 3) := by decide +kernel
theorem dX12_inWords_112 : decode cX12_inWords 112 = .ok (.goto (-44), 3) := by decide +kernel
theorem dX12_inWords_115 : decode cX12_inWords 115 = .ok (.iload 5, 2) := by decide +kernel
theorem dX12_inWords_117 : decode cX12_inWords 117 = .ok (.ifCond .eq 5, 3) := by decide +kernel
theorem dX12_inWords_120 : decode cX12_inWords 120 = .ok (.iload_n 2, 1) := by decide +kernel
theorem dX12_inWords_121 : decode cX12_inWords 121 = .ok (.ireturn, 1) := by decide +kernel
theorem dX12_inWords_122 : decode cX12_inWords 122 = .ok (.iinc 2 1, 3) := by decide +kernel
theorem dX12_inWords_125 : decode cX12_inWords 125 = .ok (.iload 4, 2) := by decide +kernel
theorem dX12_inWords_127 : decode cX12_inWords 127 = .ok (.iconst 1, 1) := by decide +kernel
theorem dX12_inWords_128 : decode cX12_inWords 128 = .ok (.iadd, 1) := by decide +kernel
theorem dX12_inWords_129 : decode cX12_inWords 129 = .ok (.istore_n 3, 1) := by decide +kernel
theorem dX12_inWords_130 : decode cX12_inWords 130 = .ok (.goto (-116), 3) := by decide +kernel
theorem dX12_inWords_133 : decode cX12_inWords 133 = .ok (.iconst (-1), 1) := by decide +kernel
theorem dX12_inWords_134 : decode cX12_inWords 134 = .ok (.ireturn, 1) := by decide +kernel
noncomputable def fX12_inWords_s25 (rf : Nat → Nat → Nat) (a0 : Nat) (x2 : Int32) (x3 : Int32) (τ25 : Int32) (μ0 : o_Mem) : Option ((Nat × (Int32)) × o_Mem) :=
  o_ck (0 ≤ (τ25).toInt ∧ (τ25).toInt < (o_ln 1).toInt) <|
  if (o_chr 1 (τ25).toNatClampNeg) = 32 then (
    some ((42, τ25), μ0))
  else (
    some ((25, (τ25 + 1)), μ0))
noncomputable def fX12_inWords_s68 (rf : Nat → Nat → Nat) (a0 : Nat) (x2 : Int32) (x3 : Int32) (x4 : Int32) (τ68 : Int32 × Int32) (μ0 : o_Mem) : Option ((Nat × (Int32 × Int32)) × o_Mem) :=
  if x4 ≤ τ68.2 then (
    some ((115, (τ68.1, 0)), μ0))
  else (
    if τ68.1 = 0 then (
      some ((115, (τ68.1, 0)), μ0))
    else (
      o_ck (0 ≤ (τ68.2).toInt ∧ (τ68.2).toInt < (o_ln 1).toInt) <|
      o_bd (fX12_byteAt rf a0 (((μ0.1 a0 13) + τ68.2) - x3) μ0) fun r1 μ1 =>
      if (o_chr 1 (τ68.2).toNatClampNeg) = r1 then (
        some ((68, (1, (τ68.2 + 1))), μ1))
      else (
        some ((68, (0, (τ68.2 + 1))), μ1))))
noncomputable def fX12_inWords_j115 (rf : Nat → Nat → Nat) (a0 : Nat) (x2 : Int32) (x4 : Int32) (x5 : Int32) (μ0 : o_Mem) : Option ((Nat × (Int32 × Int32)) × o_Mem) :=
  if x5 = 0 then (
    some ((14, ((x2 + 1), (x4 + 1))), μ0))
  else (
    some ((120, (x2, 0)), μ0))
noncomputable def fX12_inWords_s14 (rf : Nat → Nat → Nat) (a0 : Nat) (τ14 : Int32 × Int32) (μ0 : o_Mem) : Option ((Nat × (Int32 × Int32)) × o_Mem) :=
  if (o_ln 1) ≤ τ14.2 then (
    some ((133, (0, 0)), μ0))
  else (
    o_bd (o_lp 25 (fX12_inWords_s25 rf a0 τ14.1 τ14.2) o_fuel (τ14.2 : Int32) μ0) fun ex1 μ1 =>
    if ex1.1 = 42 then (
      if (ex1.2 - τ14.2) = ((μ1.1 a0 14) - (μ1.1 a0 13)) then (
        o_bd (o_lp 68 (fX12_inWords_s68 rf a0 τ14.1 τ14.2 ex1.2) o_fuel (1, τ14.2) μ1) fun ex3 μ3 =>
        if ex3.1 = 115 then (
          fX12_inWords_j115 rf a0 τ14.1 ex1.2 ex3.2.1 μ3)
        else
          none)
      else (
        o_bd (o_lp 68 (fX12_inWords_s68 rf a0 τ14.1 τ14.2 ex1.2) o_fuel (0, τ14.2) μ1) fun ex2 μ2 =>
        if ex2.1 = 115 then (
          fX12_inWords_j115 rf a0 τ14.1 ex1.2 ex2.2.1 μ2)
        else
          none))
    else
      none)
noncomputable def fX12_inWords (rf : Nat → Nat → Nat) (a0 : Nat) (μ0 : o_Mem) : Option (Int32 × o_Mem) :=
  if (μ0.1 a0 12) = 2 then (
    o_bd (o_lp 14 (fX12_inWords_s14 rf a0) o_fuel (0, 1) μ0) fun ex1 μ1 =>
    if ex1.1 = 120 then (
      some (ex1.2.1, μ1))
    else
    if ex1.1 = 133 then (
      some ((-1), μ1))
    else
      none)
  else (
    some ((-1), μ0))
set_option maxRecDepth 20000 in
theorem dnX12_inWords_s25 {X : o_Cx} (hX : o_ok X) {d : Nat} {a0 : Nat} {x2 : Int32} {x3 : Int32} {τ25 : Int32} {μ0 : o_Mem} {K : (Nat × (Int32)) → o_Mem → Prop} {Q : Option Value → o_Mem → Prop} (h0 : o_is X a0 (.inl 12)) (h : o_Post (fX12_inWords_s25 (o_rf X) a0 x2 x3 τ25 μ0) K) (kh : ∀ (τ25 : Int32) (μ : o_Mem), K (25, τ25) μ → o_Ev X (d + 4) mX12_inWords 25 [some (.ref (o_ad X a0)), some (.ref (o_aK X 1)), some (.int x2), some (.int x3), some (.int τ25), none, none] [] μ Q) (k42 : ∀ (τ25 : Int32) (μ : o_Mem), K (42, τ25) μ → o_Ev X (d + 4) mX12_inWords 42 [some (.ref (o_ad X a0)), some (.ref (o_aK X 1)), some (.int x2), some (.int x3), some (.int τ25), none, none] [] μ Q) : o_Ev X (d + 4) mX12_inWords 25 [some (.ref (o_ad X a0)), some (.ref (o_aK X 1)), some (.int x2), some (.int x3), some (.int τ25), none, none] [] μ0 Q := by
  unfold fX12_inWords_s25 at h
  refine s_aload_n (i := 1) dX12_inWords_25 rfl rfl ?_
  refine s_iload dX12_inWords_26 rfl ?_
  have hc := o_ck_c h
  have h := o_ck_k h
  refine s_charAt1 (rest := []) mlX12_153 hc (Nat.le_of_ble_eq_true rfl) dX12_inWords_28 ?_
  refine s_bipush dX12_inWords_31 kB_32 ?_
  refine s_icmp_eq (tgt := 42) dX12_inWords_33 rfl (fun c1 => ?_) (fun c1 => ?_)
  · have h := o_if_t c1 h
    refine s_mask [true, true, true, true, true, false, false] (L' := [some (.ref (o_ad X a0)), some (.ref (o_aK X 1)), some (.int x2), some (.int x3), some (.int τ25), none, none]) rfl ?_
    exact k42 τ25 _ (o_ret h)
  · have h := o_if_f c1 h
    refine s_iinc (v := (τ25 + 1)) dX12_inWords_36 rfl rfl (Nat.le_of_ble_eq_true rfl) rfl ?_
    refine s_goto (tgt := 25) dX12_inWords_39 rfl ?_
    refine s_mask [true, true, true, true, true, false, false] (L' := [some (.ref (o_ad X a0)), some (.ref (o_aK X 1)), some (.int x2), some (.int x3), some (.int (τ25 + 1)), none, none]) rfl ?_
    exact kh (τ25 + 1) _ (o_ret h)
set_option maxRecDepth 20000 in
theorem dnX12_inWords_s68 {X : o_Cx} (hX : o_ok X) {d : Nat} {a0 : Nat} {x2 : Int32} {x3 : Int32} {x4 : Int32} {τ68 : Int32 × Int32} {μ0 : o_Mem} {K : (Nat × (Int32 × Int32)) → o_Mem → Prop} {Q : Option Value → o_Mem → Prop} (h0 : o_is X a0 (.inl 12)) (h : o_Post (fX12_inWords_s68 (o_rf X) a0 x2 x3 x4 τ68 μ0) K) (kh : ∀ (τ68 : Int32 × Int32) (μ : o_Mem), K (68, τ68) μ → o_Ev X (d + 4) mX12_inWords 68 [some (.ref (o_ad X a0)), some (.ref (o_aK X 1)), some (.int x2), some (.int x3), some (.int x4), some (.int τ68.1), some (.int τ68.2)] [] μ Q) (k115 : ∀ (τ68 : Int32 × Int32) (μ : o_Mem), K (115, τ68) μ → o_Ev X (d + 4) mX12_inWords 115 [some (.ref (o_ad X a0)), some (.ref (o_aK X 1)), some (.int x2), none, some (.int x4), some (.int τ68.1), none] [] μ Q) : o_Ev X (d + 4) mX12_inWords 68 [some (.ref (o_ad X a0)), some (.ref (o_aK X 1)), some (.int x2), some (.int x3), some (.int x4), some (.int τ68.1), some (.int τ68.2)] [] μ0 Q := by
  unfold fX12_inWords_s68 at h
  refine s_iload dX12_inWords_68 rfl ?_
  refine s_iload dX12_inWords_70 rfl ?_
  refine s_icmp_ge (tgt := 115) dX12_inWords_72 rfl (fun c1 => ?_) (fun c1 => ?_)
  · have h := o_if_t c1 h
    refine s_mask [true, true, true, false, true, true, false] (L' := [some (.ref (o_ad X a0)), some (.ref (o_aK X 1)), some (.int x2), none, some (.int x4), some (.int τ68.1), none]) rfl ?_
    exact k115 (τ68.1, 0) _ (o_ret h)
  · have h := o_if_f c1 h
    refine s_iload dX12_inWords_75 rfl ?_
    refine s_if_eq (tgt := 115) dX12_inWords_77 rfl (fun c1 => ?_) (fun c1 => ?_)
    · have h := o_if_t c1 h
      refine s_mask [true, true, true, false, true, true, false] (L' := [some (.ref (o_ad X a0)), some (.ref (o_aK X 1)), some (.int x2), none, some (.int x4), some (.int τ68.1), none]) rfl ?_
      exact k115 (τ68.1, 0) _ (o_ret h)
    · have h := o_if_f c1 h
      refine s_aload_n (i := 1) dX12_inWords_80 rfl rfl ?_
      refine s_iload dX12_inWords_81 rfl ?_
      have hc := o_ck_c h
      have h := o_ck_k h
      refine s_charAt1 (rest := []) mlX12_153 hc (Nat.le_of_ble_eq_true rfl) dX12_inWords_83 ?_
      refine s_aload_n (i := 0) dX12_inWords_86 rfl rfl ?_
      refine s_aload_n (i := 0) dX12_inWords_87 rfl rfl ?_
      refine s_getI h0 flX12_126 rfl dX12_inWords_88 ?_
      refine s_iload dX12_inWords_91 rfl ?_
      refine s_iadd dX12_inWords_93 ?_
      refine s_iload_n (i := 3) dX12_inWords_94 rfl rfl ?_
      refine s_isub dX12_inWords_95 ?_
      refine s_callVi (C := mX12_byteAt) (As := [.int (((μ0.1 a0 13) + τ68.2) - x3)]) (rest := [.int (o_chr 1 (τ68.2).toNatClampNeg)]) (L0 := [some (.ref (o_ad X a0)), some (.int (((μ0.1 a0 13) + τ68.2) - x3))]) hX h0 clX12_123 dX12_inWords_96 rfl rfl (Nat.le_of_ble_eq_true rfl) (Nat.le_of_ble_eq_true rfl) (dnX12_byteAt hX h0 (o_bdp h)) (fun r1 μ1 h => ?_)
      refine s_icmp_ne (tgt := 106) dX12_inWords_99 rfl (fun c1 => ?_) (fun c1 => ?_)
      · have h := o_if_f c1 h
        refine s_iconst dX12_inWords_106 kI_0 ?_
        refine s_istore dX12_inWords_107 (Nat.le_of_ble_eq_true rfl) rfl ?_
        refine s_iinc (v := (τ68.2 + 1)) dX12_inWords_109 rfl rfl (Nat.le_of_ble_eq_true rfl) rfl ?_
        refine s_goto (tgt := 68) dX12_inWords_112 rfl ?_
        refine s_mask [true, true, true, true, true, true, true] (L' := [some (.ref (o_ad X a0)), some (.ref (o_aK X 1)), some (.int x2), some (.int x3), some (.int x4), some (.int 0), some (.int (τ68.2 + 1))]) rfl ?_
        exact kh (0, (τ68.2 + 1)) _ (o_ret h)
      · have h := o_if_t c1 h
        refine s_iconst dX12_inWords_102 kI_1 ?_
        refine s_goto (tgt := 107) dX12_inWords_103 rfl ?_
        refine s_istore dX12_inWords_107 (Nat.le_of_ble_eq_true rfl) rfl ?_
        refine s_iinc (v := (τ68.2 + 1)) dX12_inWords_109 rfl rfl (Nat.le_of_ble_eq_true rfl) rfl ?_
        refine s_goto (tgt := 68) dX12_inWords_112 rfl ?_
        refine s_mask [true, true, true, true, true, true, true] (L' := [some (.ref (o_ad X a0)), some (.ref (o_aK X 1)), some (.int x2), some (.int x3), some (.int x4), some (.int 1), some (.int (τ68.2 + 1))]) rfl ?_
        exact kh (1, (τ68.2 + 1)) _ (o_ret h)
set_option maxRecDepth 20000 in
theorem dnX12_inWords_j115 {X : o_Cx} (hX : o_ok X) {d : Nat} {a0 : Nat} {x2 : Int32} {x4 : Int32} {x5 : Int32} {μ0 : o_Mem} {K : (Nat × (Int32 × Int32)) → o_Mem → Prop} {Q : Option Value → o_Mem → Prop} (h0 : o_is X a0 (.inl 12)) (h : o_Post (fX12_inWords_j115 (o_rf X) a0 x2 x4 x5 μ0) K) (kh : ∀ (τ14 : Int32 × Int32) (μ : o_Mem), K (14, τ14) μ → o_Ev X (d + 4) mX12_inWords 14 [some (.ref (o_ad X a0)), some (.ref (o_aK X 1)), some (.int τ14.1), some (.int τ14.2), none, none, none] [] μ Q) (k120 : ∀ (τ14 : Int32 × Int32) (μ : o_Mem), K (120, τ14) μ → o_Ev X (d + 4) mX12_inWords 120 [none, none, some (.int τ14.1), none, none, none, none] [] μ Q) (k133 : ∀ (τ14 : Int32 × Int32) (μ : o_Mem), K (133, τ14) μ → o_Ev X (d + 4) mX12_inWords 133 [none, none, none, none, none, none, none] [] μ Q) : o_Ev X (d + 4) mX12_inWords 115 [some (.ref (o_ad X a0)), some (.ref (o_aK X 1)), some (.int x2), none, some (.int x4), some (.int x5), none] [] μ0 Q := by
  unfold fX12_inWords_j115 at h
  refine s_iload dX12_inWords_115 rfl ?_
  refine s_if_eq (tgt := 122) dX12_inWords_117 rfl (fun c1 => ?_) (fun c1 => ?_)
  · have h := o_if_t c1 h
    refine s_iinc (v := (x2 + 1)) dX12_inWords_122 rfl rfl (Nat.le_of_ble_eq_true rfl) rfl ?_
    refine s_iload dX12_inWords_125 rfl ?_
    refine s_iconst dX12_inWords_127 kI_1 ?_
    refine s_iadd dX12_inWords_128 ?_
    refine s_istore_n (i := 3) dX12_inWords_129 rfl (Nat.le_of_ble_eq_true rfl) rfl ?_
    refine s_goto (tgt := 14) dX12_inWords_130 rfl ?_
    refine s_mask [true, true, true, true, false, false, false] (L' := [some (.ref (o_ad X a0)), some (.ref (o_aK X 1)), some (.int (x2 + 1)), some (.int (x4 + 1)), none, none, none]) rfl ?_
    exact kh ((x2 + 1), (x4 + 1)) _ (o_ret h)
  · have h := o_if_f c1 h
    refine s_mask [false, false, true, false, false, false, false] (L' := [none, none, some (.int x2), none, none, none, none]) rfl ?_
    exact k120 (x2, 0) _ (o_ret h)
set_option maxRecDepth 20000 in
theorem dnX12_inWords_s14 {X : o_Cx} (hX : o_ok X) {d : Nat} {a0 : Nat} {τ14 : Int32 × Int32} {μ0 : o_Mem} {K : (Nat × (Int32 × Int32)) → o_Mem → Prop} {Q : Option Value → o_Mem → Prop} (h0 : o_is X a0 (.inl 12)) (h : o_Post (fX12_inWords_s14 (o_rf X) a0 τ14 μ0) K) (kh : ∀ (τ14 : Int32 × Int32) (μ : o_Mem), K (14, τ14) μ → o_Ev X (d + 4) mX12_inWords 14 [some (.ref (o_ad X a0)), some (.ref (o_aK X 1)), some (.int τ14.1), some (.int τ14.2), none, none, none] [] μ Q) (k120 : ∀ (τ14 : Int32 × Int32) (μ : o_Mem), K (120, τ14) μ → o_Ev X (d + 4) mX12_inWords 120 [none, none, some (.int τ14.1), none, none, none, none] [] μ Q) (k133 : ∀ (τ14 : Int32 × Int32) (μ : o_Mem), K (133, τ14) μ → o_Ev X (d + 4) mX12_inWords 133 [none, none, none, none, none, none, none] [] μ Q) : o_Ev X (d + 4) mX12_inWords 14 [some (.ref (o_ad X a0)), some (.ref (o_aK X 1)), some (.int τ14.1), some (.int τ14.2), none, none, none] [] μ0 Q := by
  unfold fX12_inWords_s14 at h
  refine s_iload_n (i := 3) dX12_inWords_14 rfl rfl ?_
  refine s_aload_n (i := 1) dX12_inWords_15 rfl rfl ?_
  refine s_strlen1 (rest := [.int τ14.2]) mlX12_147 (Nat.le_of_ble_eq_true rfl) dX12_inWords_16 ?_
  refine s_icmp_ge (tgt := 133) dX12_inWords_19 rfl (fun c1 => ?_) (fun c1 => ?_)
  · have h := o_if_t c1 h
    refine s_mask [false, false, false, false, false, false, false] (L' := [none, none, none, none, none, none, none]) rfl ?_
    exact k133 (0, 0) _ (o_ret h)
  · have h := o_if_f c1 h
    refine s_iload_n (i := 3) dX12_inWords_22 rfl rfl ?_
    refine s_istore dX12_inWords_23 (Nat.le_of_ble_eq_true rfl) rfl ?_
    refine s_mask [true, true, true, true, true, false, false] (L' := [some (.ref (o_ad X a0)), some (.ref (o_aK X 1)), some (.int τ14.1), some (.int τ14.2), some (.int τ14.2), none, none]) rfl ?_
    refine o_lp_ev (fun τ25 => [some (.ref (o_ad X a0)), some (.ref (o_aK X 1)), some (.int τ14.1), some (.int τ14.2), some (.int τ25), none, none]) (fun τ25 μ _K h kv ke25 => dnX12_inWords_s25 hX h0 h kv (fun τ25 μ1 h => ?_)) o_fuel τ14.2 μ0 (o_bdp h)
    · have h := o_if_t rfl (ke25 (42, τ25) μ1 (o_ne rfl) h)
      refine s_iload dX12_inWords_42 rfl ?_
      refine s_iload_n (i := 3) dX12_inWords_44 rfl rfl ?_
      refine s_isub dX12_inWords_45 ?_
      refine s_aload_n (i := 0) dX12_inWords_46 rfl rfl ?_
      refine s_getI h0 flX12_120 rfl dX12_inWords_47 ?_
      refine s_aload_n (i := 0) dX12_inWords_50 rfl rfl ?_
      refine s_getI h0 flX12_126 rfl dX12_inWords_51 ?_
      refine s_isub dX12_inWords_54 ?_
      refine s_icmp_ne (tgt := 62) dX12_inWords_55 rfl (fun c1 => ?_) (fun c1 => ?_)
      · have h := o_if_f c1 h
        refine s_iconst dX12_inWords_62 kI_0 ?_
        refine s_istore dX12_inWords_63 (Nat.le_of_ble_eq_true rfl) rfl ?_
        refine s_iload_n (i := 3) dX12_inWords_65 rfl rfl ?_
        refine s_istore dX12_inWords_66 (Nat.le_of_ble_eq_true rfl) rfl ?_
        refine s_mask [true, true, true, true, true, true, true] (L' := [some (.ref (o_ad X a0)), some (.ref (o_aK X 1)), some (.int τ14.1), some (.int τ14.2), some (.int τ25), some (.int 0), some (.int τ14.2)]) rfl ?_
        refine o_lp_ev (fun τ68 => [some (.ref (o_ad X a0)), some (.ref (o_aK X 1)), some (.int τ14.1), some (.int τ14.2), some (.int τ25), some (.int τ68.1), some (.int τ68.2)]) (fun τ68 μ _K h kv ke68 => dnX12_inWords_s68 hX h0 h kv (fun τ68 μ2 h => ?_)) o_fuel (0, τ14.2) μ1 (o_bdp h)
        · have h := o_if_t rfl (ke68 (115, τ68) μ2 (o_ne rfl) h)
          refine s_mask [true, true, true, false, true, true, false] (L' := [some (.ref (o_ad X a0)), some (.ref (o_aK X 1)), some (.int τ14.1), none, some (.int τ25), some (.int τ68.1), none]) rfl ?_
          exact dnX12_inWords_j115 hX h0 h kh k120 k133
      · have h := o_if_t c1 h
        refine s_iconst dX12_inWords_58 kI_1 ?_
        refine s_goto (tgt := 63) dX12_inWords_59 rfl ?_
        refine s_istore dX12_inWords_63 (Nat.le_of_ble_eq_true rfl) rfl ?_
        refine s_iload_n (i := 3) dX12_inWords_65 rfl rfl ?_
        refine s_istore dX12_inWords_66 (Nat.le_of_ble_eq_true rfl) rfl ?_
        refine s_mask [true, true, true, true, true, true, true] (L' := [some (.ref (o_ad X a0)), some (.ref (o_aK X 1)), some (.int τ14.1), some (.int τ14.2), some (.int τ25), some (.int 1), some (.int τ14.2)]) rfl ?_
        refine o_lp_ev (fun τ68 => [some (.ref (o_ad X a0)), some (.ref (o_aK X 1)), some (.int τ14.1), some (.int τ14.2), some (.int τ25), some (.int τ68.1), some (.int τ68.2)]) (fun τ68 μ _K h kv ke68 => dnX12_inWords_s68 hX h0 h kv (fun τ68 μ3 h => ?_)) o_fuel (1, τ14.2) μ1 (o_bdp h)
        · have h := o_if_t rfl (ke68 (115, τ68) μ3 (o_ne rfl) h)
          refine s_mask [true, true, true, false, true, true, false] (L' := [some (.ref (o_ad X a0)), some (.ref (o_aK X 1)), some (.int τ14.1), none, some (.int τ25), some (.int τ68.1), none]) rfl ?_
          exact dnX12_inWords_j115 hX h0 h kh k120 k133
set_option maxRecDepth 20000 in
theorem dnX12_inWords {X : o_Cx} (hX : o_ok X) {d : Nat} {a0 : Nat} {μ0 : o_Mem} {q : Int32 → o_Mem → Prop} (h0 : o_is X a0 (.inl 12)) (h : o_Post (fX12_inWords (o_rf X) a0 μ0) q) : o_Ev X (d + 4) mX12_inWords 0 [some (.ref (o_ad X a0)), some (.ref (o_aK X 1)), none, none, none, none, none] [] μ0 (o_QI q) := by
  unfold fX12_inWords at h
  refine s_aload_n (i := 0) dX12_inWords_0 rfl rfl ?_
  refine s_getI h0 flX12_132 rfl dX12_inWords_1 ?_
  refine s_iconst dX12_inWords_4 kI_2 ?_
  refine s_icmp_eq (tgt := 10) dX12_inWords_5 rfl (fun c1 => ?_) (fun c1 => ?_)
  · have h := o_if_t c1 h
    refine s_iconst dX12_inWords_10 kI_0 ?_
    refine s_istore_n (i := 2) dX12_inWords_11 rfl (Nat.le_of_ble_eq_true rfl) rfl ?_
    refine s_iconst dX12_inWords_12 kI_1 ?_
    refine s_istore_n (i := 3) dX12_inWords_13 rfl (Nat.le_of_ble_eq_true rfl) rfl ?_
    refine s_mask [true, true, true, true, false, false, false] (L' := [some (.ref (o_ad X a0)), some (.ref (o_aK X 1)), some (.int 0), some (.int 1), none, none, none]) rfl ?_
    refine o_lp_ev (fun τ14 => [some (.ref (o_ad X a0)), some (.ref (o_aK X 1)), some (.int τ14.1), some (.int τ14.2), none, none, none]) (fun τ14 μ _K h kv ke14 => dnX12_inWords_s14 hX h0 h kv (fun τ14 μ1 h => ?_) (fun τ14 μ1 h => ?_)) o_fuel (0, 1) μ0 (o_bdp h)
    · have h := o_if_t rfl (ke14 (120, τ14) μ1 (o_ne rfl) h)
      refine s_iload_n (i := 2) dX12_inWords_120 rfl rfl ?_
      exact s_ireturn rfl dX12_inWords_121 ⟨_, rfl, o_ret h⟩
    · have h := o_if_t rfl (o_if_f (o_ne rfl) (ke14 (133, τ14) μ1 (o_ne rfl) h))
      refine s_iconst dX12_inWords_133 kI_m1 ?_
      exact s_ireturn rfl dX12_inWords_134 ⟨_, rfl, o_ret h⟩
  · have h := o_if_f c1 h
    refine s_iconst dX12_inWords_8 kI_m1 ?_
    exact s_ireturn rfl dX12_inWords_9 ⟨_, rfl, o_ret h⟩
theorem dX12_fails_0 : decode cX12_fails 0 = .ok (.aload_n 0, 1) := by decide +kernel
theorem dX12_fails_1 : decode cX12_fails 1 = .ok (.getfield 157, 3) := by decide +kernel
theorem dX12_fails_4 : decode cX12_fails 4 = .ok (.ifCond .ne 28, 3) := by decide +kernel
theorem dX12_fails_7 : decode cX12_fails 7 = .ok (.aload_n 0, 1) := by decide +kernel
theorem dX12_fails_8 : decode cX12_fails 8 = .ok (.aload_n 0, 1) := by decide +kernel
theorem dX12_fails_9 : decode cX12_fails 9 = .ok (.getfield 132, 3) := by decide +kernel
theorem dX12_fails_12 : decode cX12_fails 12 = .ok (.iconst 1, 1) := by decide +kernel
theorem dX12_fails_13 : decode cX12_fails 13 = .ok (.if_icmp .ne 7, 3) := by decide +kernel
theorem dX12_fails_16 : decode cX12_fails 16 = .ok (.iconst 1, 1) := by decide +kernel
theorem dX12_fails_17 : decode cX12_fails 17 = .ok (.goto 4, 3) := by decide +kernel
theorem dX12_fails_20 : decode cX12_fails 20 = .ok (.iload_n 1, 1) := by decide +kernel
theorem dX12_fails_21 : decode cX12_fails 21 = .ok (.putfield 157, 3) := by decide +kernel
theorem dX12_fails_24 : decode cX12_fails 24 = .ok (.aload_n 0, 1) := by decide +kernel
theorem dX12_fails_25 : decode cX12_fails 25 = .ok (.aload_n 0, 1) := by decide +kernel
theorem dX12_fails_26 : decode cX12_fails 26 = .ok (.getfield 126, 3) := by decide +kernel
theorem dX12_fails_29 : decode cX12_fails 29 = .ok (.putfield 41, 3) := by decide +kernel
theorem dX12_fails_32 : decode cX12_fails 32 = .ok (.iconst 0, 1) := by decide +kernel
theorem dX12_fails_33 : decode cX12_fails 33 = .ok (.ireturn, 1) := by decide +kernel
noncomputable def fX12_fails_j21 (rf : Nat → Nat → Nat) (a0 : Nat) (b0 : Nat) (y1 : Int32) (μ0 : o_Mem) : Option (Int32 × o_Mem) :=
  o_seq (o_wI μ0 b0 18 y1) fun μ1 =>
  o_seq (o_wI μ1 a0 17 (μ1.1 a0 13)) fun μ2 =>
  some (0, μ2)
noncomputable def fX12_fails (rf : Nat → Nat → Nat) (a0 : Nat) (x1 : Int32) (μ0 : o_Mem) : Option (Int32 × o_Mem) :=
  if (μ0.1 a0 18) = 0 then (
    if (μ0.1 a0 12) = 1 then (
      fX12_fails_j21 rf a0 a0 1 μ0)
    else (
      fX12_fails_j21 rf a0 a0 x1 μ0))
  else (
    some (0, μ0))
set_option maxRecDepth 20000 in
theorem dnX12_fails_j21 {X : o_Cx} (hX : o_ok X) {d : Nat} {a0 : Nat} {b0 : Nat} {y1 : Int32} {μ0 : o_Mem} {q : Int32 → o_Mem → Prop} (h0 : o_is X a0 (.inl 12)) (hb0 : o_is X b0 (.inl 12)) (h : o_Post (fX12_fails_j21 (o_rf X) a0 b0 y1 μ0) q) : o_Ev X (d + 0) mX12_fails 21 [some (.ref (o_ad X a0)), none] [.int y1, .ref (o_ad X b0)] μ0 (o_QZ q) := by
  unfold fX12_fails_j21 at h
  refine s_putI hX hb0 fwX12_157 rfl dX12_fails_21 (o_gen h (fun μ1 h => ?_))
  refine s_aload_n (i := 0) dX12_fails_24 rfl rfl ?_
  refine s_aload_n (i := 0) dX12_fails_25 rfl rfl ?_
  refine s_getI h0 flX12_126 rfl dX12_fails_26 ?_
  refine s_putI hX h0 fwX12_41 rfl dX12_fails_29 (o_gen h (fun μ2 h => ?_))
  refine s_iconst dX12_fails_32 kI_0 ?_
  exact s_zreturn rfl (Or.inl rfl) dX12_fails_33 ⟨_, rfl, (Or.inl rfl), o_ret h⟩
set_option maxRecDepth 20000 in
theorem dnX12_fails {X : o_Cx} (hX : o_ok X) {d : Nat} {a0 : Nat} {x1 : Int32} {μ0 : o_Mem} {q : Int32 → o_Mem → Prop} (h0 : o_is X a0 (.inl 12)) (h : o_Post (fX12_fails (o_rf X) a0 x1 μ0) q) : o_Ev X (d + 0) mX12_fails 0 [some (.ref (o_ad X a0)), some (.int x1)] [] μ0 (o_QZ q) := by
  unfold fX12_fails at h
  refine s_aload_n (i := 0) dX12_fails_0 rfl rfl ?_
  refine s_getI h0 flX12_157 rfl dX12_fails_1 ?_
  refine s_if_ne (tgt := 32) dX12_fails_4 rfl (fun c1 => ?_) (fun c1 => ?_)
  · have h := o_if_f c1 h
    refine s_iconst dX12_fails_32 kI_0 ?_
    exact s_zreturn rfl (Or.inl rfl) dX12_fails_33 ⟨_, rfl, (Or.inl rfl), o_ret h⟩
  · have h := o_if_t c1 h
    refine s_aload_n (i := 0) dX12_fails_7 rfl rfl ?_
    refine s_aload_n (i := 0) dX12_fails_8 rfl rfl ?_
    refine s_getI h0 flX12_132 rfl dX12_fails_9 ?_
    refine s_iconst dX12_fails_12 kI_1 ?_
    refine s_icmp_ne (tgt := 20) dX12_fails_13 rfl (fun c1 => ?_) (fun c1 => ?_)
    · have h := o_if_f c1 h
      refine s_iload_n (i := 1) dX12_fails_20 rfl rfl ?_
      refine s_mask [true, false] (L' := [some (.ref (o_ad X a0)), none]) rfl ?_
      exact dnX12_fails_j21 hX h0 h0 h
    · have h := o_if_t c1 h
      refine s_iconst dX12_fails_16 kI_1 ?_
      refine s_goto (tgt := 21) dX12_fails_17 rfl ?_
      refine s_mask [true, false] (L' := [some (.ref (o_ad X a0)), none]) rfl ?_
      exact dnX12_fails_j21 hX h0 h0 h
theorem dX12_begins_0 : decode cX12_begins 0 = .ok (.iload_n 1, 1) := by decide +kernel
theorem dX12_begins_1 : decode cX12_begins 1 = .ok (.ifCond .lt 16, 3) := by decide +kernel
theorem dX12_begins_4 : decode cX12_begins 4 = .ok (.iload_n 1, 1) := by decide +kernel
theorem dX12_begins_5 : decode cX12_begins 5 = .ok (.aload_n 0, 1) := by decide +kernel
theorem dX12_begins_6 : decode cX12_begins 6 = .ok (.getfield 111, 3) := by decide +kernel
theorem dX12_begins_9 : decode cX12_begins 9 = .ok (.if_icmp .gt 8, 3) := by decide +kernel
theorem dX12_begins_12 : decode cX12_begins 12 = .ok (.iload_n 1, 1) := by decide +kernel
theorem dX12_begins_13 : decode cX12_begins 13 = .ok (.iload_n 2, 1) := by decide +kernel
theorem dX12_begins_14 : decode cX12_begins 14 = .ok (.if_icmp .le 5, 3) := by decide +kernel
theorem dX12_begins_17 : decode cX12_begins 17 = .ok (.iconst 0, 1) := by decide +kernel
theorem dX12_begins_18 : decode cX12_begins 18 = .ok (.ireturn, 1) := by decide +kernel
theorem dX12_begins_19 : decode cX12_begins 19 = .ok (.aload_n 0, 1) := by decide +kernel
theorem dX12_begins_20 : decode cX12_begins 20 = .ok (.iload_n 1, 1) := by decide +kernel
theorem dX12_begins_21 : decode cX12_begins 21 = .ok (.putfield 117, 3) := by decide +kernel
theorem dX12_begins_24 : decode cX12_begins 24 = .ok (.iconst 0, 1) := by decide +kernel
theorem dX12_begins_25 : decode cX12_begins 25 = .ok (.istore_n 3, 1) := by decide +kernel
theorem dX12_begins_26 : decode cX12_begins 26 = .ok (.iload_n 3, 1) := by decide +kernel
theorem dX12_begins_27 : decode cX12_begins 27 = .ok (.iload_n 1, 1) := by decide +kernel
theorem dX12_begins_28 : decode cX12_begins 28 = .ok (.if_icmp .ge 21, 3) := by decide +kernel
theorem dX12_begins_31 : decode cX12_begins 31 = .ok (.aload_n 0, 1) := by decide +kernel
theorem dX12_begins_32 : decode cX12_begins 32 = .ok (.getfield 34, 3) := by decide +kernel
theorem dX12_begins_35 : decode cX12_begins 35 = .ok (.iload_n 3, 1) := by decide +kernel
theorem dX12_begins_36 : decode cX12_begins 36 = .ok (.aload_n 0, 1) := by decide +kernel
theorem dX12_begins_37 : decode cX12_begins 37 = .ok (.getfield 30, 3) := by decide +kernel
theorem dX12_begins_40 : decode cX12_begins 40 = .ok (.iload_n 3, 1) := by decide +kernel
theorem dX12_begins_41 : decode cX12_begins 41 = .ok (.baload, 1) := by decide +kernel
theorem dX12_begins_42 : decode cX12_begins 42 = .ok (.bastore, 1) := by decide +kernel
theorem dX12_begins_43 : decode cX12_begins 43 = .ok (.iinc 3 1, 3) := by decide +kernel
theorem dX12_begins_46 : decode cX12_begins 46 = .ok (.goto (-20), 3) := by decide +kernel
theorem dX12_begins_49 : decode cX12_begins 49 = .ok (.aload_n 0, 1) := by decide +kernel
theorem dX12_begins_50 : decode cX12_begins 50 = .ok (.iconst 0, 1) := by decide +kernel
theorem dX12_begins_51 : decode cX12_begins 51 = .ok (.putfield 111, 3) := by decide +kernel
theorem dX12_begins_54 : decode cX12_begins 54 = .ok (.aload_n 0, 1) := by decide +kernel
theorem dX12_begins_55 : decode cX12_begins 55 = .ok (.iconst 0, 1) := by decide +kernel
theorem dX12_begins_56 : decode cX12_begins 56 = .ok (.putfield 157, 3) := by decide +kernel
theorem dX12_begins_59 : decode cX12_begins 59 = .ok (.aload_n 0, 1) := by decide +kernel
theorem dX12_begins_60 : decode cX12_begins 60 = .ok (.iconst (-1), 1) := by decide +kernel
theorem dX12_begins_61 : decode cX12_begins 61 = .ok (.putfield 41, 3) := by decide +kernel
theorem dX12_begins_64 : decode cX12_begins 64 = .ok (.aload_n 0, 1) := by decide +kernel
theorem dX12_begins_65 : decode cX12_begins 65 = .ok (.iconst 0, 1) := by decide +kernel
theorem dX12_begins_66 : decode cX12_begins 66 = .ok (.putfield 120, 3) := by decide +kernel
theorem dX12_begins_69 : decode cX12_begins 69 = .ok (.aload_n 0, 1) := by decide +kernel
theorem dX12_begins_70 : decode cX12_begins 70 = .ok (.iconst 0, 1) := by decide +kernel
theorem dX12_begins_71 : decode cX12_begins 71 = .ok (.putfield 160, 3) := by decide +kernel
theorem dX12_begins_74 : decode cX12_begins 74 = .ok (.aload_n 0, 1) := by decide +kernel
theorem dX12_begins_75 : decode cX12_begins 75 = .ok (.invokevirtual 163, 3) := by decide +kernel
theorem dX12_begins_78 : decode cX12_begins 78 = .ok (.iconst 1, 1) := by decide +kernel
theorem dX12_begins_79 : decode cX12_begins 79 = .ok (.ireturn, 1) := by decide +kernel
noncomputable def fX12_begins_s26 (rf : Nat → Nat → Nat) (a0 : Nat) (x1 : Int32) (τ26 : Int32) (μ0 : o_Mem) : Option ((Nat × (Int32)) × o_Mem) :=
  if x1 ≤ τ26 then (
    some ((49, 0), μ0))
  else (
    o_ck (0 ≤ (τ26).toInt ∧ (τ26).toInt < 900) <|
    o_ck (0 ≤ (τ26).toInt ∧ (τ26).toInt < 900) <|
    o_seq (o_wI μ0 (rf a0 9) τ26.toNatClampNeg ((μ0.1 (rf a0 8) τ26.toNatClampNeg).toInt8.toInt32)) fun μ1 =>
    some ((26, (τ26 + 1)), μ1))
noncomputable def fX12_begins (rf : Nat → Nat → Nat) (a0 : Nat) (x1 : Int32) (x2 : Int32) (μ0 : o_Mem) : Option (Int32 × o_Mem) :=
  if x1 < 0 then (
    some (0, μ0))
  else (
    if (μ0.1 a0 10) < x1 then (
      some (0, μ0))
    else (
      if x1 ≤ x2 then (
        o_seq (o_wI μ0 a0 11 x1) fun μ1 =>
        o_bd (o_lp 26 (fX12_begins_s26 rf a0 x1) o_fuel (0 : Int32) μ1) fun ex2 μ2 =>
        if ex2.1 = 49 then (
          o_seq (o_wI μ2 a0 10 0) fun μ3 =>
          o_seq (o_wI μ3 a0 18 0) fun μ4 =>
          o_seq (o_wI μ4 a0 17 (-1)) fun μ5 =>
          o_seq (o_wI μ5 a0 14 0) fun μ6 =>
          o_seq (o_wI μ6 a0 19 0) fun μ7 =>
          o_bd (fX12_ahead rf a0 μ7) fun _u μ8 =>
          some (1, μ8))
        else
          none)
      else (
        some (0, μ0))))
set_option maxRecDepth 20000 in
theorem dnX12_begins_s26 {X : o_Cx} (hX : o_ok X) {d : Nat} {a0 : Nat} {x1 : Int32} {τ26 : Int32} {μ0 : o_Mem} {K : (Nat × (Int32)) → o_Mem → Prop} {Q : Option Value → o_Mem → Prop} (h0 : o_is X a0 (.inl 12)) (h : o_Post (fX12_begins_s26 (o_rf X) a0 x1 τ26 μ0) K) (kh : ∀ (τ26 : Int32) (μ : o_Mem), K (26, τ26) μ → o_Ev X (d + 2) mX12_begins 26 [some (.ref (o_ad X a0)), some (.int x1), none, some (.int τ26)] [] μ Q) (k49 : ∀ (τ26 : Int32) (μ : o_Mem), K (49, τ26) μ → o_Ev X (d + 2) mX12_begins 49 [some (.ref (o_ad X a0)), none, none, none] [] μ Q) : o_Ev X (d + 2) mX12_begins 26 [some (.ref (o_ad X a0)), some (.int x1), none, some (.int τ26)] [] μ0 Q := by
  unfold fX12_begins_s26 at h
  refine s_iload_n (i := 3) dX12_begins_26 rfl rfl ?_
  refine s_iload_n (i := 1) dX12_begins_27 rfl rfl ?_
  refine s_icmp_ge (tgt := 49) dX12_begins_28 rfl (fun c1 => ?_) (fun c1 => ?_)
  · have h := o_if_t c1 h
    refine s_mask [true, false, false, false] (L' := [some (.ref (o_ad X a0)), none, none, none]) rfl ?_
    exact k49 0 _ (o_ret h)
  · have h := o_if_f c1 h
    refine s_aload_n (i := 0) dX12_begins_31 rfl rfl ?_
    refine s_getR hX h0 flX12_34 rfl dX12_begins_32 (fun (g1 : o_is X (o_rf X a0 9) (.inr (1, 900))) => ?_)
    refine s_iload_n (i := 3) dX12_begins_35 rfl rfl ?_
    refine s_aload_n (i := 0) dX12_begins_36 rfl rfl ?_
    refine s_getR hX h0 flX12_30 rfl dX12_begins_37 (fun (g2 : o_is X (o_rf X a0 8) (.inr (1, 900))) => ?_)
    refine s_iload_n (i := 3) dX12_begins_40 rfl rfl ?_
    have hc := o_ck_c h
    have h := o_ck_k h
    refine s_baldK g2 hc rfl dX12_begins_41 ?_
    have hc := o_ck_c h
    have h := o_ck_k h
    refine s_bastK hX g1 hc rfl dX12_begins_42 (o_gen h (fun μ1 h => ?_))
    refine s_iinc (v := (τ26 + 1)) dX12_begins_43 rfl rfl (Nat.le_of_ble_eq_true rfl) rfl ?_
    refine s_goto (tgt := 26) dX12_begins_46 rfl ?_
    refine s_mask [true, true, false, true] (L' := [some (.ref (o_ad X a0)), some (.int x1), none, some (.int (τ26 + 1))]) rfl ?_
    exact kh (τ26 + 1) _ (o_ret h)
set_option maxRecDepth 20000 in
theorem dnX12_begins {X : o_Cx} (hX : o_ok X) {d : Nat} {a0 : Nat} {x1 : Int32} {x2 : Int32} {μ0 : o_Mem} {q : Int32 → o_Mem → Prop} (h0 : o_is X a0 (.inl 12)) (h : o_Post (fX12_begins (o_rf X) a0 x1 x2 μ0) q) : o_Ev X (d + 2) mX12_begins 0 [some (.ref (o_ad X a0)), some (.int x1), some (.int x2), none] [] μ0 (o_QZ q) := by
  unfold fX12_begins at h
  refine s_iload_n (i := 1) dX12_begins_0 rfl rfl ?_
  refine s_if_lt (tgt := 17) dX12_begins_1 rfl (fun c1 => ?_) (fun c1 => ?_)
  · have h := o_if_t c1 h
    refine s_iconst dX12_begins_17 kI_0 ?_
    exact s_zreturn rfl (Or.inl rfl) dX12_begins_18 ⟨_, rfl, (Or.inl rfl), o_ret h⟩
  · have h := o_if_f c1 h
    refine s_iload_n (i := 1) dX12_begins_4 rfl rfl ?_
    refine s_aload_n (i := 0) dX12_begins_5 rfl rfl ?_
    refine s_getI h0 flX12_111 rfl dX12_begins_6 ?_
    refine s_icmp_gt (tgt := 17) dX12_begins_9 rfl (fun c1 => ?_) (fun c1 => ?_)
    · have h := o_if_t c1 h
      refine s_iconst dX12_begins_17 kI_0 ?_
      exact s_zreturn rfl (Or.inl rfl) dX12_begins_18 ⟨_, rfl, (Or.inl rfl), o_ret h⟩
    · have h := o_if_f c1 h
      refine s_iload_n (i := 1) dX12_begins_12 rfl rfl ?_
      refine s_iload_n (i := 2) dX12_begins_13 rfl rfl ?_
      refine s_icmp_le (tgt := 19) dX12_begins_14 rfl (fun c1 => ?_) (fun c1 => ?_)
      · have h := o_if_t c1 h
        refine s_aload_n (i := 0) dX12_begins_19 rfl rfl ?_
        refine s_iload_n (i := 1) dX12_begins_20 rfl rfl ?_
        refine s_putI hX h0 fwX12_117 rfl dX12_begins_21 (o_gen h (fun μ1 h => ?_))
        refine s_iconst dX12_begins_24 kI_0 ?_
        refine s_istore_n (i := 3) dX12_begins_25 rfl (Nat.le_of_ble_eq_true rfl) rfl ?_
        refine s_mask [true, true, false, true] (L' := [some (.ref (o_ad X a0)), some (.int x1), none, some (.int 0)]) rfl ?_
        refine o_lp_ev (fun τ26 => [some (.ref (o_ad X a0)), some (.int x1), none, some (.int τ26)]) (fun τ26 μ _K h kv ke26 => dnX12_begins_s26 hX h0 h kv (fun τ26 μ2 h => ?_)) o_fuel 0 μ1 (o_bdp h)
        · have h := o_if_t rfl (ke26 (49, τ26) μ2 (o_ne rfl) h)
          refine s_aload_n (i := 0) dX12_begins_49 rfl rfl ?_
          refine s_iconst dX12_begins_50 kI_0 ?_
          refine s_putI hX h0 fwX12_111 rfl dX12_begins_51 (o_gen h (fun μ3 h => ?_))
          refine s_aload_n (i := 0) dX12_begins_54 rfl rfl ?_
          refine s_iconst dX12_begins_55 kI_0 ?_
          refine s_putI hX h0 fwX12_157 rfl dX12_begins_56 (o_gen h (fun μ4 h => ?_))
          refine s_aload_n (i := 0) dX12_begins_59 rfl rfl ?_
          refine s_iconst dX12_begins_60 kI_m1 ?_
          refine s_putI hX h0 fwX12_41 rfl dX12_begins_61 (o_gen h (fun μ5 h => ?_))
          refine s_aload_n (i := 0) dX12_begins_64 rfl rfl ?_
          refine s_iconst dX12_begins_65 kI_0 ?_
          refine s_putI hX h0 fwX12_120 rfl dX12_begins_66 (o_gen h (fun μ6 h => ?_))
          refine s_aload_n (i := 0) dX12_begins_69 rfl rfl ?_
          refine s_iconst dX12_begins_70 kI_0 ?_
          refine s_putI hX h0 fwX12_160 rfl dX12_begins_71 (o_gen h (fun μ7 h => ?_))
          refine s_aload_n (i := 0) dX12_begins_74 rfl rfl ?_
          refine s_callVu (C := mX12_ahead) (As := []) (rest := []) (L0 := [some (.ref (o_ad X a0)), none]) hX h0 clX12_163 dX12_begins_75 rfl rfl (Nat.le_of_ble_eq_true rfl) (Nat.le_of_ble_eq_true rfl) (dnX12_ahead hX h0 (o_bdp h)) (fun _u μ8 h => ?_)
          refine s_iconst dX12_begins_78 kI_1 ?_
          exact s_zreturn rfl (Or.inr rfl) dX12_begins_79 ⟨_, rfl, (Or.inr rfl), o_ret h⟩
      · have h := o_if_f c1 h
        refine s_iconst dX12_begins_17 kI_0 ?_
        exact s_zreturn rfl (Or.inl rfl) dX12_begins_18 ⟨_, rfl, (Or.inl rfl), o_ret h⟩
theorem dX12_wantSign_0 : decode cX12_wantSign 0 = .ok (.aload_n 0, 1) := by decide +kernel
theorem dX12_wantSign_1 : decode cX12_wantSign 1 = .ok (.iload_n 1, 1) := by decide +kernel
theorem dX12_wantSign_2 : decode cX12_wantSign 2 = .ok (.invokevirtual 166, 3) := by decide +kernel
theorem dX12_wantSign_5 : decode cX12_wantSign 5 = .ok (.ifCond .ne 9, 3) := by decide +kernel
theorem dX12_wantSign_8 : decode cX12_wantSign 8 = .ok (.aload_n 0, 1) := by decide +kernel
theorem dX12_wantSign_9 : decode cX12_wantSign 9 = .ok (.iconst 2, 1) := by decide +kernel
theorem dX12_wantSign_10 : decode cX12_wantSign 10 = .ok (.invokevirtual 169, 3) := by decide +kernel
theorem dX12_wantSign_13 : decode cX12_wantSign 13 = .ok (.ireturn, 1) := by decide +kernel
theorem dX12_wantSign_14 : decode cX12_wantSign 14 = .ok (.aload_n 0, 1) := by decide +kernel
theorem dX12_wantSign_15 : decode cX12_wantSign 15 = .ok (.invokevirtual 163, 3) := by decide +kernel
theorem dX12_wantSign_18 : decode cX12_wantSign 18 = .ok (.iconst 1, 1) := by decide +kernel
theorem dX12_wantSign_19 : decode cX12_wantSign 19 = .ok (.ireturn, 1) := by decide +kernel
noncomputable def fX12_wantSign (rf : Nat → Nat → Nat) (a0 : Nat) (x1 : Int32) (μ0 : o_Mem) : Option (Int32 × o_Mem) :=
  o_bd (fX12_isSign rf a0 x1 μ0) fun r1 μ1 =>
  if r1 = 0 then (
    o_bd (fX12_fails rf a0 2 μ1) fun r2 μ3 =>
    some (r2, μ3))
  else (
    o_bd (fX12_ahead rf a0 μ1) fun _u μ2 =>
    some (1, μ2))
set_option maxRecDepth 20000 in
theorem dnX12_wantSign {X : o_Cx} (hX : o_ok X) {d : Nat} {a0 : Nat} {x1 : Int32} {μ0 : o_Mem} {q : Int32 → o_Mem → Prop} (h0 : o_is X a0 (.inl 12)) (h : o_Post (fX12_wantSign (o_rf X) a0 x1 μ0) q) : o_Ev X (d + 2) mX12_wantSign 0 [some (.ref (o_ad X a0)), some (.int x1)] [] μ0 (o_QZ q) := by
  unfold fX12_wantSign at h
  refine s_aload_n (i := 0) dX12_wantSign_0 rfl rfl ?_
  refine s_iload_n (i := 1) dX12_wantSign_1 rfl rfl ?_
  refine s_callVz (C := mX12_isSign) (As := [.int x1]) (rest := []) (L0 := [some (.ref (o_ad X a0)), some (.int x1)]) hX h0 clX12_166 dX12_wantSign_2 rfl rfl (Nat.le_of_ble_eq_true rfl) (Nat.le_of_ble_eq_true rfl) (dnX12_isSign hX h0 (o_bdp h)) (fun r1 μ1 zr1 h => ?_)
  refine s_if_ne (tgt := 14) dX12_wantSign_5 rfl (fun c1 => ?_) (fun c1 => ?_)
  · have h := o_if_f c1 h
    refine s_aload_n (i := 0) dX12_wantSign_14 rfl rfl ?_
    refine s_callVu (C := mX12_ahead) (As := []) (rest := []) (L0 := [some (.ref (o_ad X a0)), none]) hX h0 clX12_163 dX12_wantSign_15 rfl rfl (Nat.le_of_ble_eq_true rfl) (Nat.le_of_ble_eq_true rfl) (dnX12_ahead hX h0 (o_bdp h)) (fun _u μ2 h => ?_)
    refine s_iconst dX12_wantSign_18 kI_1 ?_
    exact s_zreturn rfl (Or.inr rfl) dX12_wantSign_19 ⟨_, rfl, (Or.inr rfl), o_ret h⟩
  · have h := o_if_t c1 h
    refine s_aload_n (i := 0) dX12_wantSign_8 rfl rfl ?_
    refine s_iconst dX12_wantSign_9 kI_2 ?_
    refine s_callVz (C := mX12_fails) (As := [.int 2]) (rest := []) (L0 := [some (.ref (o_ad X a0)), some (.int 2)]) hX h0 clX12_169 dX12_wantSign_10 rfl rfl (Nat.le_of_ble_eq_true rfl) (Nat.le_of_ble_eq_true rfl) (dnX12_fails hX h0 (o_bdp h)) (fun r2 μ3 zr2 h => ?_)
    exact s_zreturn rfl zr2 dX12_wantSign_13 ⟨_, rfl, zr2, o_ret h⟩
theorem dX12_wantWord_0 : decode cX12_wantWord 0 = .ok (.aload_n 0, 1) := by decide +kernel
theorem dX12_wantWord_1 : decode cX12_wantWord 1 = .ok (.aload_n 1, 1) := by decide +kernel
theorem dX12_wantWord_2 : decode cX12_wantWord 2 = .ok (.invokevirtual 172, 3) := by decide +kernel
theorem dX12_wantWord_5 : decode cX12_wantWord 5 = .ok (.iload_n 2, 1) := by decide +kernel
theorem dX12_wantWord_6 : decode cX12_wantWord 6 = .ok (.if_icmp .eq 9, 3) := by decide +kernel
theorem dX12_wantWord_9 : decode cX12_wantWord 9 = .ok (.aload_n 0, 1) := by decide +kernel
theorem dX12_wantWord_10 : decode cX12_wantWord 10 = .ok (.iconst 2, 1) := by decide +kernel
theorem dX12_wantWord_11 : decode cX12_wantWord 11 = .ok (.invokevirtual 169, 3) := by decide +kernel
theorem dX12_wantWord_14 : decode cX12_wantWord 14 = .ok (.ireturn, 1) := by decide +kernel
theorem dX12_wantWord_15 : decode cX12_wantWord 15 = .ok (.aload_n 0, 1) := by decide +kernel
theorem dX12_wantWord_16 : decode cX12_wantWord 16 = .ok (.invokevirtual 163, 3) := by decide +kernel
theorem dX12_wantWord_19 : decode cX12_wantWord 19 = .ok (.iconst 1, 1) := by decide +kernel
theorem dX12_wantWord_20 : decode cX12_wantWord 20 = .ok (.ireturn, 1) := by decide +kernel
noncomputable def fX12_wantWord (rf : Nat → Nat → Nat) (a0 : Nat) (x2 : Int32) (μ0 : o_Mem) : Option (Int32 × o_Mem) :=
  o_bd (fX12_inWords rf a0 μ0) fun r1 μ1 =>
  if r1 = x2 then (
    o_bd (fX12_ahead rf a0 μ1) fun _u μ2 =>
    some (1, μ2))
  else (
    o_bd (fX12_fails rf a0 2 μ1) fun r2 μ3 =>
    some (r2, μ3))
set_option maxRecDepth 20000 in
theorem dnX12_wantWord {X : o_Cx} (hX : o_ok X) {d : Nat} {a0 : Nat} {x2 : Int32} {μ0 : o_Mem} {q : Int32 → o_Mem → Prop} (h0 : o_is X a0 (.inl 12)) (h : o_Post (fX12_wantWord (o_rf X) a0 x2 μ0) q) : o_Ev X (d + 5) mX12_wantWord 0 [some (.ref (o_ad X a0)), some (.ref (o_aK X 1)), some (.int x2)] [] μ0 (o_QZ q) := by
  unfold fX12_wantWord at h
  refine s_aload_n (i := 0) dX12_wantWord_0 rfl rfl ?_
  refine s_aload_n (i := 1) dX12_wantWord_1 rfl rfl ?_
  refine s_callVi (C := mX12_inWords) (As := [.ref (o_aK X 1)]) (rest := []) (L0 := [some (.ref (o_ad X a0)), some (.ref (o_aK X 1)), none, none, none, none, none]) hX h0 clX12_172 dX12_wantWord_2 rfl rfl (Nat.le_of_ble_eq_true rfl) (Nat.le_of_ble_eq_true rfl) (dnX12_inWords hX h0 (o_bdp h)) (fun r1 μ1 h => ?_)
  refine s_iload_n (i := 2) dX12_wantWord_5 rfl rfl ?_
  refine s_icmp_eq (tgt := 15) dX12_wantWord_6 rfl (fun c1 => ?_) (fun c1 => ?_)
  · have h := o_if_t c1 h
    refine s_aload_n (i := 0) dX12_wantWord_15 rfl rfl ?_
    refine s_callVu (C := mX12_ahead) (As := []) (rest := []) (L0 := [some (.ref (o_ad X a0)), none]) hX h0 clX12_163 dX12_wantWord_16 rfl rfl (Nat.le_of_ble_eq_true rfl) (Nat.le_of_ble_eq_true rfl) (dnX12_ahead hX h0 (o_bdp h)) (fun _u μ2 h => ?_)
    refine s_iconst dX12_wantWord_19 kI_1 ?_
    exact s_zreturn rfl (Or.inr rfl) dX12_wantWord_20 ⟨_, rfl, (Or.inr rfl), o_ret h⟩
  · have h := o_if_f c1 h
    refine s_aload_n (i := 0) dX12_wantWord_9 rfl rfl ?_
    refine s_iconst dX12_wantWord_10 kI_2 ?_
    refine s_callVz (C := mX12_fails) (As := [.int 2]) (rest := []) (L0 := [some (.ref (o_ad X a0)), some (.int 2)]) hX h0 clX12_169 dX12_wantWord_11 rfl rfl (Nat.le_of_ble_eq_true rfl) (Nat.le_of_ble_eq_true rfl) (dnX12_fails hX h0 (o_bdp h)) (fun r2 μ3 zr2 h => ?_)
    exact s_zreturn rfl zr2 dX12_wantWord_14 ⟨_, rfl, zr2, o_ret h⟩
theorem dX12_number_0 : decode cX12_number 0 = .ok (.aload_n 0, 1) := by decide +kernel
theorem dX12_number_1 : decode cX12_number 1 = .ok (.getfield 132, 3) := by decide +kernel
theorem dX12_number_4 : decode cX12_number 4 = .ok (.iconst 3, 1) := by decide +kernel
theorem dX12_number_5 : decode cX12_number 5 = .ok (.if_icmp .eq 9, 3) := by decide +kernel
theorem dX12_number_8 : decode cX12_number 8 = .ok (.aload_n 0, 1) := by decide +kernel
theorem dX12_number_9 : decode cX12_number 9 = .ok (.iconst 2, 1) := by decide +kernel
theorem dX12_number_10 : decode cX12_number 10 = .ok (.invokevirtual 169, 3) := by decide +kernel
theorem dX12_number_13 : decode cX12_number 13 = .ok (.ireturn, 1) := by decide +kernel
theorem dX12_number_14 : decode cX12_number 14 = .ok (.aload_n 0, 1) := by decide +kernel
theorem dX12_number_15 : decode cX12_number 15 = .ok (.getfield 129, 3) := by decide +kernel
theorem dX12_number_18 : decode cX12_number 18 = .ok (.iload_n 2, 1) := by decide +kernel
theorem dX12_number_19 : decode cX12_number 19 = .ok (.if_icmp .lt 11, 3) := by decide +kernel
theorem dX12_number_22 : decode cX12_number 22 = .ok (.aload_n 0, 1) := by decide +kernel
theorem dX12_number_23 : decode cX12_number 23 = .ok (.getfield 129, 3) := by decide +kernel
theorem dX12_number_26 : decode cX12_number 26 = .ok (.iload_n 3, 1) := by decide +kernel
theorem dX12_number_27 : decode cX12_number 27 = .ok (.if_icmp .le 9, 3) := by decide +kernel
theorem dX12_number_30 : decode cX12_number 30 = .ok (.aload_n 0, 1) := by decide +kernel
theorem dX12_number_31 : decode cX12_number 31 = .ok (.iconst 4, 1) := by decide +kernel
theorem dX12_number_32 : decode cX12_number 32 = .ok (.invokevirtual 169, 3) := by decide +kernel
theorem dX12_number_35 : decode cX12_number 35 = .ok (.ireturn, 1) := by decide +kernel
theorem dX12_number_36 : decode cX12_number 36 = .ok (.aload_n 0, 1) := by decide +kernel
theorem dX12_number_37 : decode cX12_number 37 = .ok (.getfield 7, 3) := by decide +kernel
theorem dX12_number_40 : decode cX12_number 40 = .ok (.iload_n 1, 1) := by decide +kernel
theorem dX12_number_41 : decode cX12_number 41 = .ok (.aload_n 0, 1) := by decide +kernel
theorem dX12_number_42 : decode cX12_number 42 = .ok (.getfield 129, 3) := by decide +kernel
theorem dX12_number_45 : decode cX12_number 45 = .ok (.iastore, 1) := by decide +kernel
theorem dX12_number_46 : decode cX12_number 46 = .ok (.aload_n 0, 1) := by decide +kernel
theorem dX12_number_47 : decode cX12_number 47 = .ok (.invokevirtual 163, 3) := by decide +kernel
theorem dX12_number_50 : decode cX12_number 50 = .ok (.iconst 1, 1) := by decide +kernel
theorem dX12_number_51 : decode cX12_number 51 = .ok (.ireturn, 1) := by decide +kernel
noncomputable def fX12_number_j30 (rf : Nat → Nat → Nat) (a0 : Nat) (μ0 : o_Mem) : Option (Int32 × o_Mem) :=
  o_bd (fX12_fails rf a0 4 μ0) fun r1 μ1 =>
  some (r1, μ1)
noncomputable def fX12_number (rf : Nat → Nat → Nat) (a0 : Nat) (x1 : Int32) (x2 : Int32) (x3 : Int32) (μ0 : o_Mem) : Option (Int32 × o_Mem) :=
  if (μ0.1 a0 12) = 3 then (
    if (μ0.1 a0 15) < x2 then (
      fX12_number_j30 rf a0 μ0)
    else (
      if (μ0.1 a0 15) ≤ x3 then (
        o_ck (0 ≤ (x1).toInt ∧ (x1).toInt < 3756) <|
        o_seq (o_wI μ0 (rf a0 0) x1.toNatClampNeg (μ0.1 a0 15)) fun μ1 =>
        o_bd (fX12_ahead rf a0 μ1) fun _u μ2 =>
        some (1, μ2))
      else (
        fX12_number_j30 rf a0 μ0)))
  else (
    o_bd (fX12_fails rf a0 2 μ0) fun r1 μ3 =>
    some (r1, μ3))
set_option maxRecDepth 20000 in
theorem dnX12_number_j30 {X : o_Cx} (hX : o_ok X) {d : Nat} {a0 : Nat} {μ0 : o_Mem} {q : Int32 → o_Mem → Prop} (h0 : o_is X a0 (.inl 12)) (h : o_Post (fX12_number_j30 (o_rf X) a0 μ0) q) : o_Ev X (d + 2) mX12_number 30 [some (.ref (o_ad X a0)), none, none, none] [] μ0 (o_QZ q) := by
  unfold fX12_number_j30 at h
  refine s_aload_n (i := 0) dX12_number_30 rfl rfl ?_
  refine s_iconst dX12_number_31 kI_4 ?_
  refine s_callVz (C := mX12_fails) (As := [.int 4]) (rest := []) (L0 := [some (.ref (o_ad X a0)), some (.int 4)]) hX h0 clX12_169 dX12_number_32 rfl rfl (Nat.le_of_ble_eq_true rfl) (Nat.le_of_ble_eq_true rfl) (dnX12_fails hX h0 (o_bdp h)) (fun r1 μ1 zr1 h => ?_)
  exact s_zreturn rfl zr1 dX12_number_35 ⟨_, rfl, zr1, o_ret h⟩
set_option maxRecDepth 20000 in
theorem dnX12_number {X : o_Cx} (hX : o_ok X) {d : Nat} {a0 : Nat} {x1 : Int32} {x2 : Int32} {x3 : Int32} {μ0 : o_Mem} {q : Int32 → o_Mem → Prop} (h0 : o_is X a0 (.inl 12)) (h : o_Post (fX12_number (o_rf X) a0 x1 x2 x3 μ0) q) : o_Ev X (d + 2) mX12_number 0 [some (.ref (o_ad X a0)), some (.int x1), some (.int x2), some (.int x3)] [] μ0 (o_QZ q) := by
  unfold fX12_number at h
  refine s_aload_n (i := 0) dX12_number_0 rfl rfl ?_
  refine s_getI h0 flX12_132 rfl dX12_number_1 ?_
  refine s_iconst dX12_number_4 kI_3 ?_
  refine s_icmp_eq (tgt := 14) dX12_number_5 rfl (fun c1 => ?_) (fun c1 => ?_)
  · have h := o_if_t c1 h
    refine s_aload_n (i := 0) dX12_number_14 rfl rfl ?_
    refine s_getI h0 flX12_129 rfl dX12_number_15 ?_
    refine s_iload_n (i := 2) dX12_number_18 rfl rfl ?_
    refine s_icmp_lt (tgt := 30) dX12_number_19 rfl (fun c1 => ?_) (fun c1 => ?_)
    · have h := o_if_t c1 h
      refine s_mask [true, false, false, false] (L' := [some (.ref (o_ad X a0)), none, none, none]) rfl ?_
      exact dnX12_number_j30 hX h0 h
    · have h := o_if_f c1 h
      refine s_aload_n (i := 0) dX12_number_22 rfl rfl ?_
      refine s_getI h0 flX12_129 rfl dX12_number_23 ?_
      refine s_iload_n (i := 3) dX12_number_26 rfl rfl ?_
      refine s_icmp_le (tgt := 36) dX12_number_27 rfl (fun c1 => ?_) (fun c1 => ?_)
      · have h := o_if_t c1 h
        refine s_aload_n (i := 0) dX12_number_36 rfl rfl ?_
        refine s_getR hX h0 flX12_7 rfl dX12_number_37 (fun (g1 : o_is X (o_rf X a0 0) (.inr (0, 3756))) => ?_)
        refine s_iload_n (i := 1) dX12_number_40 rfl rfl ?_
        refine s_aload_n (i := 0) dX12_number_41 rfl rfl ?_
        refine s_getI h0 flX12_129 rfl dX12_number_42 ?_
        have hc := o_ck_c h
        have h := o_ck_k h
        refine s_iastK hX g1 hc rfl dX12_number_45 (o_gen h (fun μ1 h => ?_))
        refine s_aload_n (i := 0) dX12_number_46 rfl rfl ?_
        refine s_callVu (C := mX12_ahead) (As := []) (rest := []) (L0 := [some (.ref (o_ad X a0)), none]) hX h0 clX12_163 dX12_number_47 rfl rfl (Nat.le_of_ble_eq_true rfl) (Nat.le_of_ble_eq_true rfl) (dnX12_ahead hX h0 (o_bdp h)) (fun _u μ2 h => ?_)
        refine s_iconst dX12_number_50 kI_1 ?_
        exact s_zreturn rfl (Or.inr rfl) dX12_number_51 ⟨_, rfl, (Or.inr rfl), o_ret h⟩
      · have h := o_if_f c1 h
        refine s_mask [true, false, false, false] (L' := [some (.ref (o_ad X a0)), none, none, none]) rfl ?_
        exact dnX12_number_j30 hX h0 h
  · have h := o_if_f c1 h
    refine s_aload_n (i := 0) dX12_number_8 rfl rfl ?_
    refine s_iconst dX12_number_9 kI_2 ?_
    refine s_callVz (C := mX12_fails) (As := [.int 2]) (rest := []) (L0 := [some (.ref (o_ad X a0)), some (.int 2)]) hX h0 clX12_169 dX12_number_10 rfl rfl (Nat.le_of_ble_eq_true rfl) (Nat.le_of_ble_eq_true rfl) (dnX12_fails hX h0 (o_bdp h)) (fun r1 μ3 zr1 h => ?_)
    exact s_zreturn rfl zr1 dX12_number_13 ⟨_, rfl, zr1, o_ret h⟩
theorem dX12_isName_0 : decode cX12_isName 0 = .ok (.aload_n 0, 1) := by decide +kernel
theorem dX12_isName_1 : decode cX12_isName 1 = .ok (.getfield 132, 3) := by decide +kernel
theorem dX12_isName_4 : decode cX12_isName 4 = .ok (.iconst 2, 1) := by decide +kernel
theorem dX12_isName_5 : decode cX12_isName 5 = .ok (.if_icmp .ne 30, 3) := by decide +kernel
theorem dX12_isName_8 : decode cX12_isName 8 = .ok (.aload_n 0, 1) := by decide +kernel
theorem dX12_isName_9 : decode cX12_isName 9 = .ok (.getfield 120, 3) := by decide +kernel
theorem dX12_isName_12 : decode cX12_isName 12 = .ok (.aload_n 0, 1) := by decide +kernel
theorem dX12_isName_13 : decode cX12_isName 13 = .ok (.getfield 126, 3) := by decide +kernel
theorem dX12_isName_16 : decode cX12_isName 16 = .ok (.isub, 1) := by decide +kernel
theorem dX12_isName_17 : decode cX12_isName 17 = .ok (.bipush 8, 2) := by decide +kernel
theorem dX12_isName_19 : decode cX12_isName 19 = .ok (.if_icmp .gt 16, 3) := by decide +kernel
theorem dX12_isName_22 : decode cX12_isName 22 = .ok (.aload_n 0, 1) := by decide +kernel
theorem dX12_isName_23 : decode cX12_isName 23 = .ok (.aload_n 1, 1) := by decide +kernel
theorem dX12_isName_24 : decode cX12_isName 24 = .ok (.invokevirtual 172, 3) := by decide +kernel
theorem dX12_isName_27 : decode cX12_isName 27 = .ok (.iconst (-1), 1) := by decide +kernel
theorem dX12_isName_28 : decode cX12_isName 28 = .ok (.if_icmp .ne 7, 3) := by decide +kernel
theorem dX12_isName_31 : decode cX12_isName 31 = .ok (.iconst 1, 1) := by decide +kernel
theorem dX12_isName_32 : decode cX12_isName 32 = .ok (.goto 4, 3) := by decide +kernel
theorem dX12_isName_35 : decode cX12_isName 35 = .ok (.iconst 0, 1) := by decide +kernel
theorem dX12_isName_36 : decode cX12_isName 36 = .ok (.ireturn, 1) := by decide +kernel
noncomputable def fX12_isName (rf : Nat → Nat → Nat) (a0 : Nat) (μ0 : o_Mem) : Option (Int32 × o_Mem) :=
  if (μ0.1 a0 12) = 2 then (
    if 8 < ((μ0.1 a0 14) - (μ0.1 a0 13)) then (
      some (0, μ0))
    else (
      o_bd (fX12_inWords rf a0 μ0) fun r1 μ1 =>
      if r1 = (-1) then (
        some (1, μ1))
      else (
        some (0, μ1))))
  else (
    some (0, μ0))
set_option maxRecDepth 20000 in
theorem dnX12_isName {X : o_Cx} (hX : o_ok X) {d : Nat} {a0 : Nat} {μ0 : o_Mem} {q : Int32 → o_Mem → Prop} (h0 : o_is X a0 (.inl 12)) (h : o_Post (fX12_isName (o_rf X) a0 μ0) q) : o_Ev X (d + 5) mX12_isName 0 [some (.ref (o_ad X a0)), some (.ref (o_aK X 1))] [] μ0 (o_QZ q) := by
  unfold fX12_isName at h
  refine s_aload_n (i := 0) dX12_isName_0 rfl rfl ?_
  refine s_getI h0 flX12_132 rfl dX12_isName_1 ?_
  refine s_iconst dX12_isName_4 kI_2 ?_
  refine s_icmp_ne (tgt := 35) dX12_isName_5 rfl (fun c1 => ?_) (fun c1 => ?_)
  · have h := o_if_f c1 h
    refine s_iconst dX12_isName_35 kI_0 ?_
    exact s_zreturn rfl (Or.inl rfl) dX12_isName_36 ⟨_, rfl, (Or.inl rfl), o_ret h⟩
  · have h := o_if_t c1 h
    refine s_aload_n (i := 0) dX12_isName_8 rfl rfl ?_
    refine s_getI h0 flX12_120 rfl dX12_isName_9 ?_
    refine s_aload_n (i := 0) dX12_isName_12 rfl rfl ?_
    refine s_getI h0 flX12_126 rfl dX12_isName_13 ?_
    refine s_isub dX12_isName_16 ?_
    refine s_bipush dX12_isName_17 kB_8 ?_
    refine s_icmp_gt (tgt := 35) dX12_isName_19 rfl (fun c1 => ?_) (fun c1 => ?_)
    · have h := o_if_t c1 h
      refine s_iconst dX12_isName_35 kI_0 ?_
      exact s_zreturn rfl (Or.inl rfl) dX12_isName_36 ⟨_, rfl, (Or.inl rfl), o_ret h⟩
    · have h := o_if_f c1 h
      refine s_aload_n (i := 0) dX12_isName_22 rfl rfl ?_
      refine s_aload_n (i := 1) dX12_isName_23 rfl rfl ?_
      refine s_callVi (C := mX12_inWords) (As := [.ref (o_aK X 1)]) (rest := []) (L0 := [some (.ref (o_ad X a0)), some (.ref (o_aK X 1)), none, none, none, none, none]) hX h0 clX12_172 dX12_isName_24 rfl rfl (Nat.le_of_ble_eq_true rfl) (Nat.le_of_ble_eq_true rfl) (dnX12_inWords hX h0 (o_bdp h)) (fun r1 μ1 h => ?_)
      refine s_iconst dX12_isName_27 kI_m1 ?_
      refine s_icmp_ne (tgt := 35) dX12_isName_28 rfl (fun c1 => ?_) (fun c1 => ?_)
      · have h := o_if_f c1 h
        refine s_iconst dX12_isName_35 kI_0 ?_
        exact s_zreturn rfl (Or.inl rfl) dX12_isName_36 ⟨_, rfl, (Or.inl rfl), o_ret h⟩
      · have h := o_if_t c1 h
        refine s_iconst dX12_isName_31 kI_1 ?_
        refine s_goto (tgt := 36) dX12_isName_32 rfl ?_
        exact s_zreturn rfl (Or.inr rfl) dX12_isName_36 ⟨_, rfl, (Or.inr rfl), o_ret h⟩
theorem dX12_nameHere_0 : decode cX12_nameHere 0 = .ok (.lconst 0, 1) := by decide +kernel
theorem dX12_nameHere_1 : decode cX12_nameHere 1 = .ok (.lstore_n 1, 1) := by decide +kernel
theorem dX12_nameHere_2 : decode cX12_nameHere 2 = .ok (.aload_n 0, 1) := by decide +kernel
theorem dX12_nameHere_3 : decode cX12_nameHere 3 = .ok (.getfield 126, 3) := by decide +kernel
theorem dX12_nameHere_6 : decode cX12_nameHere 6 = .ok (.istore_n 3, 1) := by decide +kernel
theorem dX12_nameHere_7 : decode cX12_nameHere 7 = .ok (.iload_n 3, 1) := by decide +kernel
theorem dX12_nameHere_8 : decode cX12_nameHere 8 = .ok (.aload_n 0, 1) := by decide +kernel
theorem dX12_nameHere_9 : decode cX12_nameHere 9 = .ok (.getfield 120, 3) := by decide +kernel
theorem dX12_nameHere_12 : decode cX12_nameHere 12 = .ok (.if_icmp .ge 21, 3) := by decide +kernel
theorem dX12_nameHere_15 : decode cX12_nameHere 15 = .ok (.lload_n 1, 1) := by decide +kernel
theorem dX12_nameHere_16 : decode cX12_nameHere 16 = .ok (.bipush 8, 2) := by decide +kernel
theorem dX12_nameHere_18 : decode cX12_nameHere 18 = .ok (.lshl, 1) := by decide +kernel
theorem dX12_nameHere_19 : decode cX12_nameHere 19 = .ok (.aload_n 0, 1) := by decide +kernel
theorem dX12_nameHere_20 : decode cX12_nameHere 20 = .ok (.iload_n 3, 1) := by decide +kernel
theorem dX12_nameHere_21 : decode cX12_nameHere 21 = .ok (.invokevirtual 123, 3) := by decide +kernel
theorem dX12_nameHere_24 : decode cX12_nameHere 24 = .ok (.i2l, 1) := by decide +kernel
theorem dX12_nameHere_25 : decode cX12_nameHere 25 = .ok (.lor, 1) := by decide +kernel
theorem dX12_nameHere_26 : decode cX12_nameHere 26 = .ok (.lstore_n 1, 1) := by decide +kernel
theorem dX12_nameHere_27 : decode cX12_nameHere 27 = .ok (.iinc 3 1, 3) := by decide +kernel
theorem dX12_nameHere_30 : decode cX12_nameHere 30 = .ok (.goto (-23), 3) := by decide +kernel
theorem dX12_nameHere_33 : decode cX12_nameHere 33 = .ok (.lload_n 1, 1) := by decide +kernel
theorem dX12_nameHere_34 : decode cX12_nameHere 34 = .ok (.lreturn, 1) := by decide +kernel
noncomputable def fX12_nameHere_s7 (rf : Nat → Nat → Nat) (a0 : Nat) (τ7 : Int64 × Int32) (μ0 : o_Mem) : Option ((Nat × (Int64 × Int32)) × o_Mem) :=
  if (μ0.1 a0 14) ≤ τ7.2 then (
    some ((33, (τ7.1, 0)), μ0))
  else (
    o_bd (fX12_byteAt rf a0 τ7.2 μ0) fun r1 μ1 =>
    some ((7, (((τ7.1 <<< ((8 : Int32).toInt64 &&& 63)) ||| r1.toInt64), (τ7.2 + 1))), μ1))
noncomputable def fX12_nameHere (rf : Nat → Nat → Nat) (a0 : Nat) (μ0 : o_Mem) : Option (Int64 × o_Mem) :=
  o_bd (o_lp 7 (fX12_nameHere_s7 rf a0) o_fuel ((0 : Int64), (μ0.1 a0 13)) μ0) fun ex1 μ1 =>
  if ex1.1 = 33 then (
    some (ex1.2.1, μ1))
  else
    none
set_option maxRecDepth 20000 in
theorem dnX12_nameHere_s7 {X : o_Cx} (hX : o_ok X) {d : Nat} {a0 : Nat} {τ7 : Int64 × Int32} {μ0 : o_Mem} {K : (Nat × (Int64 × Int32)) → o_Mem → Prop} {Q : Option Value → o_Mem → Prop} (h0 : o_is X a0 (.inl 12)) (h : o_Post (fX12_nameHere_s7 (o_rf X) a0 τ7 μ0) K) (kh : ∀ (τ7 : Int64 × Int32) (μ : o_Mem), K (7, τ7) μ → o_Ev X (d + 1) mX12_nameHere 7 [some (.ref (o_ad X a0)), some (.long τ7.1), none, some (.int τ7.2)] [] μ Q) (k33 : ∀ (τ7 : Int64 × Int32) (μ : o_Mem), K (33, τ7) μ → o_Ev X (d + 1) mX12_nameHere 33 [none, some (.long τ7.1), none, none] [] μ Q) : o_Ev X (d + 1) mX12_nameHere 7 [some (.ref (o_ad X a0)), some (.long τ7.1), none, some (.int τ7.2)] [] μ0 Q := by
  unfold fX12_nameHere_s7 at h
  refine s_iload_n (i := 3) dX12_nameHere_7 rfl rfl ?_
  refine s_aload_n (i := 0) dX12_nameHere_8 rfl rfl ?_
  refine s_getI h0 flX12_120 rfl dX12_nameHere_9 ?_
  refine s_icmp_ge (tgt := 33) dX12_nameHere_12 rfl (fun c1 => ?_) (fun c1 => ?_)
  · have h := o_if_t c1 h
    refine s_mask [false, true, false, false] (L' := [none, some (.long τ7.1), none, none]) rfl ?_
    exact k33 (τ7.1, 0) _ (o_ret h)
  · have h := o_if_f c1 h
    refine s_lload_n (i := 1) dX12_nameHere_15 rfl rfl ?_
    refine s_bipush dX12_nameHere_16 kB_8 ?_
    refine s_lshl dX12_nameHere_18 ?_
    refine s_aload_n (i := 0) dX12_nameHere_19 rfl rfl ?_
    refine s_iload_n (i := 3) dX12_nameHere_20 rfl rfl ?_
    refine s_callVi (C := mX12_byteAt) (As := [.int τ7.2]) (rest := [.long (τ7.1 <<< ((8 : Int32).toInt64 &&& 63))]) (L0 := [some (.ref (o_ad X a0)), some (.int τ7.2)]) hX h0 clX12_123 dX12_nameHere_21 rfl rfl (Nat.le_of_ble_eq_true rfl) (Nat.le_of_ble_eq_true rfl) (dnX12_byteAt hX h0 (o_bdp h)) (fun r1 μ1 h => ?_)
    refine s_i2l dX12_nameHere_24 ?_
    refine s_lor dX12_nameHere_25 ?_
    refine s_lstore_n (i := 1) dX12_nameHere_26 rfl (Nat.le_of_ble_eq_true rfl) rfl ?_
    refine s_iinc (v := (τ7.2 + 1)) dX12_nameHere_27 rfl rfl (Nat.le_of_ble_eq_true rfl) rfl ?_
    refine s_goto (tgt := 7) dX12_nameHere_30 rfl ?_
    refine s_mask [true, true, false, true] (L' := [some (.ref (o_ad X a0)), some (.long ((τ7.1 <<< ((8 : Int32).toInt64 &&& 63)) ||| r1.toInt64)), none, some (.int (τ7.2 + 1))]) rfl ?_
    exact kh (((τ7.1 <<< ((8 : Int32).toInt64 &&& 63)) ||| r1.toInt64), (τ7.2 + 1)) _ (o_ret h)
set_option maxRecDepth 20000 in
theorem dnX12_nameHere {X : o_Cx} (hX : o_ok X) {d : Nat} {a0 : Nat} {μ0 : o_Mem} {q : Int64 → o_Mem → Prop} (h0 : o_is X a0 (.inl 12)) (h : o_Post (fX12_nameHere (o_rf X) a0 μ0) q) : o_Ev X (d + 1) mX12_nameHere 0 [some (.ref (o_ad X a0)), none, none, none] [] μ0 (o_QL q) := by
  unfold fX12_nameHere at h
  refine s_lconst (v := 0) dX12_nameHere_0 rfl ?_
  refine s_lstore_n (i := 1) dX12_nameHere_1 rfl (Nat.le_of_ble_eq_true rfl) rfl ?_
  refine s_aload_n (i := 0) dX12_nameHere_2 rfl rfl ?_
  refine s_getI h0 flX12_126 rfl dX12_nameHere_3 ?_
  refine s_istore_n (i := 3) dX12_nameHere_6 rfl (Nat.le_of_ble_eq_true rfl) rfl ?_
  refine s_mask [true, true, false, true] (L' := [some (.ref (o_ad X a0)), some (.long (0 : Int64)), none, some (.int (μ0.1 a0 13))]) rfl ?_
  refine o_lp_ev (fun τ7 => [some (.ref (o_ad X a0)), some (.long τ7.1), none, some (.int τ7.2)]) (fun τ7 μ _K h kv ke7 => dnX12_nameHere_s7 hX h0 h kv (fun τ7 μ1 h => ?_)) o_fuel ((0 : Int64), (μ0.1 a0 13)) μ0 (o_bdp h)
  · have h := o_if_t rfl (ke7 (33, τ7) μ1 (o_ne rfl) h)
    refine s_lload_n (i := 1) dX12_nameHere_33 rfl rfl ?_
    exact s_lreturn rfl dX12_nameHere_34 ⟨_, rfl, o_ret h⟩
theorem dX12_findHere_0 : decode cX12_findHere 0 = .ok (.iconst 0, 1) := by decide +kernel
theorem dX12_findHere_1 : decode cX12_findHere 1 = .ok (.istore_n 3, 1) := by decide +kernel
theorem dX12_findHere_2 : decode cX12_findHere 2 = .ok (.iload_n 3, 1) := by decide +kernel
theorem dX12_findHere_3 : decode cX12_findHere 3 = .ok (.iload_n 2, 1) := by decide +kernel
theorem dX12_findHere_4 : decode cX12_findHere 4 = .ok (.if_icmp .ge 27, 3) := by decide +kernel
theorem dX12_findHere_7 : decode cX12_findHere 7 = .ok (.aload_n 0, 1) := by decide +kernel
theorem dX12_findHere_8 : decode cX12_findHere 8 = .ok (.getfield 13, 3) := by decide +kernel
theorem dX12_findHere_11 : decode cX12_findHere 11 = .ok (.iload_n 1, 1) := by decide +kernel
theorem dX12_findHere_12 : decode cX12_findHere 12 = .ok (.iload_n 3, 1) := by decide +kernel
theorem dX12_findHere_13 : decode cX12_findHere 13 = .ok (.iadd, 1) := by decide +kernel
theorem dX12_findHere_14 : decode cX12_findHere 14 = .ok (.laload, 1) := by decide +kernel
theorem dX12_findHere_15 : decode cX12_findHere 15 = .ok (.aload_n 0, 1) := by decide +kernel
theorem dX12_findHere_16 : decode cX12_findHere 16 = .ok (.invokevirtual 176, 3) := by decide +kernel
theorem dX12_findHere_19 : decode cX12_findHere 19 = .ok (.lcmp, 1) := by decide +kernel
theorem dX12_findHere_20 : decode cX12_findHere 20 = .ok (.ifCond .ne 5, 3) := by decide +kernel
theorem dX12_findHere_23 : decode cX12_findHere 23 = .ok (.iload_n 3, 1) := by decide +kernel
theorem dX12_findHere_24 : decode cX12_findHere 24 = .ok (.ireturn, 1) := by decide +kernel
theorem dX12_findHere_25 : decode cX12_findHere 25 = .ok (.iinc 3 1, 3) := by decide +kernel
theorem dX12_findHere_28 : decode cX12_findHere 28 = .ok (.goto (-26), 3) := by decide +kernel
theorem dX12_findHere_31 : decode cX12_findHere 31 = .ok (.iconst (-1), 1) := by decide +kernel
theorem dX12_findHere_32 : decode cX12_findHere 32 = .ok (.ireturn, 1) := by decide +kernel
noncomputable def fX12_findHere_s2 (rf : Nat → Nat → Nat) (a0 : Nat) (x1 : Int32) (x2 : Int32) (τ2 : Int32) (μ0 : o_Mem) : Option ((Nat × (Int32)) × o_Mem) :=
  if x2 ≤ τ2 then (
    some ((31, 0), μ0))
  else (
    o_ck (0 ≤ ((x1 + τ2)).toInt ∧ ((x1 + τ2)).toInt < 96) <|
    o_bd (fX12_nameHere rf a0 μ0) fun r1 μ1 =>
    if (μ0.2 (rf a0 1) ((x1 + τ2)).toNatClampNeg) = r1 then (
      some ((23, τ2), μ1))
    else (
      some ((2, (τ2 + 1)), μ1)))
noncomputable def fX12_findHere (rf : Nat → Nat → Nat) (a0 : Nat) (x1 : Int32) (x2 : Int32) (μ0 : o_Mem) : Option (Int32 × o_Mem) :=
  o_bd (o_lp 2 (fX12_findHere_s2 rf a0 x1 x2) o_fuel (0 : Int32) μ0) fun ex1 μ1 =>
  if ex1.1 = 23 then (
    some (ex1.2, μ1))
  else
  if ex1.1 = 31 then (
    some ((-1), μ1))
  else
    none
set_option maxRecDepth 20000 in
theorem dnX12_findHere_s2 {X : o_Cx} (hX : o_ok X) {d : Nat} {a0 : Nat} {x1 : Int32} {x2 : Int32} {τ2 : Int32} {μ0 : o_Mem} {K : (Nat × (Int32)) → o_Mem → Prop} {Q : Option Value → o_Mem → Prop} (h0 : o_is X a0 (.inl 12)) (h : o_Post (fX12_findHere_s2 (o_rf X) a0 x1 x2 τ2 μ0) K) (kh : ∀ (τ2 : Int32) (μ : o_Mem), K (2, τ2) μ → o_Ev X (d + 2) mX12_findHere 2 [some (.ref (o_ad X a0)), some (.int x1), some (.int x2), some (.int τ2)] [] μ Q) (k23 : ∀ (τ2 : Int32) (μ : o_Mem), K (23, τ2) μ → o_Ev X (d + 2) mX12_findHere 23 [none, none, none, some (.int τ2)] [] μ Q) (k31 : ∀ (τ2 : Int32) (μ : o_Mem), K (31, τ2) μ → o_Ev X (d + 2) mX12_findHere 31 [none, none, none, none] [] μ Q) : o_Ev X (d + 2) mX12_findHere 2 [some (.ref (o_ad X a0)), some (.int x1), some (.int x2), some (.int τ2)] [] μ0 Q := by
  unfold fX12_findHere_s2 at h
  refine s_iload_n (i := 3) dX12_findHere_2 rfl rfl ?_
  refine s_iload_n (i := 2) dX12_findHere_3 rfl rfl ?_
  refine s_icmp_ge (tgt := 31) dX12_findHere_4 rfl (fun c1 => ?_) (fun c1 => ?_)
  · have h := o_if_t c1 h
    refine s_mask [false, false, false, false] (L' := [none, none, none, none]) rfl ?_
    exact k31 0 _ (o_ret h)
  · have h := o_if_f c1 h
    refine s_aload_n (i := 0) dX12_findHere_7 rfl rfl ?_
    refine s_getR hX h0 flX12_13 rfl dX12_findHere_8 (fun (g1 : o_is X (o_rf X a0 1) (.inr (2, 96))) => ?_)
    refine s_iload_n (i := 1) dX12_findHere_11 rfl rfl ?_
    refine s_iload_n (i := 3) dX12_findHere_12 rfl rfl ?_
    refine s_iadd dX12_findHere_13 ?_
    have hc := o_ck_c h
    have h := o_ck_k h
    refine s_laldK g1 hc rfl dX12_findHere_14 ?_
    refine s_aload_n (i := 0) dX12_findHere_15 rfl rfl ?_
    refine s_callVl (C := mX12_nameHere) (As := []) (rest := [.long (μ0.2 (o_rf X a0 1) ((x1 + τ2)).toNatClampNeg)]) (L0 := [some (.ref (o_ad X a0)), none, none, none]) hX h0 clX12_176 dX12_findHere_16 rfl rfl (Nat.le_of_ble_eq_true rfl) (Nat.le_of_ble_eq_true rfl) (dnX12_nameHere hX h0 (o_bdp h)) (fun r1 μ1 h => ?_)
    refine s_lif_ne (tgt := 25) dX12_findHere_19 dX12_findHere_20 rfl (fun c1 => ?_) (fun c1 => ?_)
    · have h := o_if_f c1 h
      refine s_iinc (v := (τ2 + 1)) dX12_findHere_25 rfl rfl (Nat.le_of_ble_eq_true rfl) rfl ?_
      refine s_goto (tgt := 2) dX12_findHere_28 rfl ?_
      refine s_mask [true, true, true, true] (L' := [some (.ref (o_ad X a0)), some (.int x1), some (.int x2), some (.int (τ2 + 1))]) rfl ?_
      exact kh (τ2 + 1) _ (o_ret h)
    · have h := o_if_t c1 h
      refine s_mask [false, false, false, true] (L' := [none, none, none, some (.int τ2)]) rfl ?_
      exact k23 τ2 _ (o_ret h)
set_option maxRecDepth 20000 in
theorem dnX12_findHere {X : o_Cx} (hX : o_ok X) {d : Nat} {a0 : Nat} {x1 : Int32} {x2 : Int32} {μ0 : o_Mem} {q : Int32 → o_Mem → Prop} (h0 : o_is X a0 (.inl 12)) (h : o_Post (fX12_findHere (o_rf X) a0 x1 x2 μ0) q) : o_Ev X (d + 2) mX12_findHere 0 [some (.ref (o_ad X a0)), some (.int x1), some (.int x2), none] [] μ0 (o_QI q) := by
  unfold fX12_findHere at h
  refine s_iconst dX12_findHere_0 kI_0 ?_
  refine s_istore_n (i := 3) dX12_findHere_1 rfl (Nat.le_of_ble_eq_true rfl) rfl ?_
  refine s_mask [true, true, true, true] (L' := [some (.ref (o_ad X a0)), some (.int x1), some (.int x2), some (.int 0)]) rfl ?_
  refine o_lp_ev (fun τ2 => [some (.ref (o_ad X a0)), some (.int x1), some (.int x2), some (.int τ2)]) (fun τ2 μ _K h kv ke2 => dnX12_findHere_s2 hX h0 h kv (fun τ2 μ1 h => ?_) (fun τ2 μ1 h => ?_)) o_fuel 0 μ0 (o_bdp h)
  · have h := o_if_t rfl (ke2 (23, τ2) μ1 (o_ne rfl) h)
    refine s_iload_n (i := 3) dX12_findHere_23 rfl rfl ?_
    exact s_ireturn rfl dX12_findHere_24 ⟨_, rfl, o_ret h⟩
  · have h := o_if_t rfl (o_if_f (o_ne rfl) (ke2 (31, τ2) μ1 (o_ne rfl) h))
    refine s_iconst dX12_findHere_31 kI_m1 ?_
    exact s_ireturn rfl dX12_findHere_32 ⟨_, rfl, o_ret h⟩
theorem dX12_fault_0 : decode cX12_fault 0 = .ok (.iload_n 1, 1) := by decide +kernel
theorem dX12_fault_1 : decode cX12_fault 1 = .ok (.ifCond .ne 10, 3) := by decide +kernel
theorem dX12_fault_4 : decode cX12_fault 4 = .ok (.aload_n 0, 1) := by decide +kernel
theorem dX12_fault_5 : decode cX12_fault 5 = .ok (.getfield 37, 3) := by decide +kernel
theorem dX12_fault_8 : decode cX12_fault 8 = .ok (.goto 16, 3) := by decide +kernel
theorem dX12_fault_11 : decode cX12_fault 11 = .ok (.iload_n 1, 1) := by decide +kernel
theorem dX12_fault_12 : decode cX12_fault 12 = .ok (.iconst 1, 1) := by decide +kernel
theorem dX12_fault_13 : decode cX12_fault 13 = .ok (.if_icmp .ne 10, 3) := by decide +kernel
theorem dX12_fault_16 : decode cX12_fault 16 = .ok (.aload_n 0, 1) := by decide +kernel
theorem dX12_fault_17 : decode cX12_fault 17 = .ok (.getfield 41, 3) := by decide +kernel
theorem dX12_fault_20 : decode cX12_fault 20 = .ok (.goto 4, 3) := by decide +kernel
theorem dX12_fault_23 : decode cX12_fault 23 = .ok (.iconst (-1), 1) := by decide +kernel
theorem dX12_fault_24 : decode cX12_fault 24 = .ok (.ireturn, 1) := by decide +kernel
noncomputable def fX12_fault (rf : Nat → Nat → Nat) (a0 : Nat) (x1 : Int32) (μ0 : o_Mem) : Option (Int32 × o_Mem) :=
  if x1 = 0 then (
    some ((μ0.1 a0 16), μ0))
  else (
    if x1 = 1 then (
      some ((μ0.1 a0 17), μ0))
    else (
      some ((-1), μ0)))
set_option maxRecDepth 20000 in
theorem dnX12_fault {X : o_Cx} (hX : o_ok X) {d : Nat} {a0 : Nat} {x1 : Int32} {μ0 : o_Mem} {q : Int32 → o_Mem → Prop} (h0 : o_is X a0 (.inl 12)) (h : o_Post (fX12_fault (o_rf X) a0 x1 μ0) q) : o_Ev X (d + 0) mX12_fault 0 [some (.ref (o_ad X a0)), some (.int x1)] [] μ0 (o_QI q) := by
  unfold fX12_fault at h
  refine s_iload_n (i := 1) dX12_fault_0 rfl rfl ?_
  refine s_if_ne (tgt := 11) dX12_fault_1 rfl (fun c1 => ?_) (fun c1 => ?_)
  · have h := o_if_f c1 h
    refine s_iload_n (i := 1) dX12_fault_11 rfl rfl ?_
    refine s_iconst dX12_fault_12 kI_1 ?_
    refine s_icmp_ne (tgt := 23) dX12_fault_13 rfl (fun c1 => ?_) (fun c1 => ?_)
    · have h := o_if_f c1 h
      refine s_iconst dX12_fault_23 kI_m1 ?_
      exact s_ireturn rfl dX12_fault_24 ⟨_, rfl, o_ret h⟩
    · have h := o_if_t c1 h
      refine s_aload_n (i := 0) dX12_fault_16 rfl rfl ?_
      refine s_getI h0 flX12_41 rfl dX12_fault_17 ?_
      refine s_goto (tgt := 24) dX12_fault_20 rfl ?_
      exact s_ireturn rfl dX12_fault_24 ⟨_, rfl, o_ret h⟩
  · have h := o_if_t c1 h
    refine s_aload_n (i := 0) dX12_fault_4 rfl rfl ?_
    refine s_getI h0 flX12_37 rfl dX12_fault_5 ?_
    refine s_goto (tgt := 24) dX12_fault_8 rfl ?_
    exact s_ireturn rfl dX12_fault_24 ⟨_, rfl, o_ret h⟩
theorem dX12_taken_0 : decode cX12_taken 0 = .ok (.aload_n 0, 1) := by decide +kernel
theorem dX12_taken_1 : decode cX12_taken 1 = .ok (.aload_n 0, 1) := by decide +kernel
theorem dX12_taken_2 : decode cX12_taken 2 = .ok (.getfield 157, 3) := by decide +kernel
theorem dX12_taken_5 : decode cX12_taken 5 = .ok (.putfield 37, 3) := by decide +kernel
theorem dX12_taken_8 : decode cX12_taken 8 = .ok (.aload_n 0, 1) := by decide +kernel
theorem dX12_taken_9 : decode cX12_taken 9 = .ok (.getfield 157, 3) := by decide +kernel
theorem dX12_taken_12 : decode cX12_taken 12 = .ok (.ifCond .le 12, 3) := by decide +kernel
theorem dX12_taken_15 : decode cX12_taken 15 = .ok (.aload_n 0, 1) := by decide +kernel
theorem dX12_taken_16 : decode cX12_taken 16 = .ok (.bipush 9, 2) := by decide +kernel
theorem dX12_taken_18 : decode cX12_taken 18 = .ok (.invokevirtual 87, 3) := by decide +kernel
theorem dX12_taken_21 : decode cX12_taken 21 = .ok (.goto 8, 3) := by decide +kernel
theorem dX12_taken_24 : decode cX12_taken 24 = .ok (.aload_n 0, 1) := by decide +kernel
theorem dX12_taken_25 : decode cX12_taken 25 = .ok (.iload_n 1, 1) := by decide +kernel
theorem dX12_taken_26 : decode cX12_taken 26 = .ok (.invokevirtual 91, 3) := by decide +kernel
theorem dX12_taken_29 : decode cX12_taken 29 = .ok (.ireturn, 1) := by decide +kernel
noncomputable def fX12_taken (rf : Nat → Nat → Nat) (a0 : Nat) (x1 : Int32) (μ0 : o_Mem) : Option (Int32 × o_Mem) :=
  o_seq (o_wI μ0 a0 16 (μ0.1 a0 18)) fun μ1 =>
  if (μ1.1 a0 18) ≤ 0 then (
    o_bd (fX12_gives rf a0 x1 μ1) fun r1 μ2 =>
    some (r1, μ2))
  else (
    o_bd (fX12_refuse rf a0 9 μ1) fun r2 μ3 =>
    some (r2, μ3))
set_option maxRecDepth 20000 in
theorem dnX12_taken {X : o_Cx} (hX : o_ok X) {d : Nat} {a0 : Nat} {x1 : Int32} {μ0 : o_Mem} {q : Int32 → o_Mem → Prop} (h0 : o_is X a0 (.inl 12)) (h : o_Post (fX12_taken (o_rf X) a0 x1 μ0) q) : o_Ev X (d + 1) mX12_taken 0 [some (.ref (o_ad X a0)), some (.int x1)] [] μ0 (o_QI q) := by
  unfold fX12_taken at h
  refine s_aload_n (i := 0) dX12_taken_0 rfl rfl ?_
  refine s_aload_n (i := 0) dX12_taken_1 rfl rfl ?_
  refine s_getI h0 flX12_157 rfl dX12_taken_2 ?_
  refine s_putI hX h0 fwX12_37 rfl dX12_taken_5 (o_gen h (fun μ1 h => ?_))
  refine s_aload_n (i := 0) dX12_taken_8 rfl rfl ?_
  refine s_getI h0 flX12_157 rfl dX12_taken_9 ?_
  refine s_if_le (tgt := 24) dX12_taken_12 rfl (fun c1 => ?_) (fun c1 => ?_)
  · have h := o_if_t c1 h
    refine s_aload_n (i := 0) dX12_taken_24 rfl rfl ?_
    refine s_iload_n (i := 1) dX12_taken_25 rfl rfl ?_
    refine s_callVi (C := mX12_gives) (As := [.int x1]) (rest := []) (L0 := [some (.ref (o_ad X a0)), some (.int x1)]) hX h0 clX12_91 dX12_taken_26 rfl rfl (Nat.le_of_ble_eq_true rfl) (Nat.le_of_ble_eq_true rfl) (dnX12_gives hX h0 (o_bdp h)) (fun r1 μ2 h => ?_)
    exact s_ireturn rfl dX12_taken_29 ⟨_, rfl, o_ret h⟩
  · have h := o_if_f c1 h
    refine s_aload_n (i := 0) dX12_taken_15 rfl rfl ?_
    refine s_bipush dX12_taken_16 kB_9 ?_
    refine s_callVi (C := mX12_refuse) (As := [.int 9]) (rest := []) (L0 := [some (.ref (o_ad X a0)), some (.int 9)]) hX h0 clX12_87 dX12_taken_18 rfl rfl (Nat.le_of_ble_eq_true rfl) (Nat.le_of_ble_eq_true rfl) (dnX12_refuse hX h0 (o_bdp h)) (fun r2 μ3 h => ?_)
    refine s_goto (tgt := 29) dX12_taken_21 rfl ?_
    exact s_ireturn rfl dX12_taken_29 ⟨_, rfl, o_ret h⟩
theorem dX12_isThere_0 : decode cX12_isThere 0 = .ok (.aload_n 0, 1) := by decide +kernel
theorem dX12_isThere_1 : decode cX12_isThere 1 = .ok (.ldc 180, 2) := by decide +kernel
theorem dX12_isThere_3 : decode cX12_isThere 3 = .ok (.invokevirtual 172, 3) := by decide +kernel
theorem dX12_isThere_6 : decode cX12_isThere 6 = .ok (.iload_n 1, 1) := by decide +kernel
theorem dX12_isThere_7 : decode cX12_isThere 7 = .ok (.if_icmp .eq 5, 3) := by decide +kernel
theorem dX12_isThere_10 : decode cX12_isThere 10 = .ok (.iconst 0, 1) := by decide +kernel
theorem dX12_isThere_11 : decode cX12_isThere 11 = .ok (.ireturn, 1) := by decide +kernel
theorem dX12_isThere_12 : decode cX12_isThere 12 = .ok (.aload_n 0, 1) := by decide +kernel
theorem dX12_isThere_13 : decode cX12_isThere 13 = .ok (.invokevirtual 163, 3) := by decide +kernel
theorem dX12_isThere_16 : decode cX12_isThere 16 = .ok (.iconst 1, 1) := by decide +kernel
theorem dX12_isThere_17 : decode cX12_isThere 17 = .ok (.ireturn, 1) := by decide +kernel
noncomputable def fX12_isThere (rf : Nat → Nat → Nat) (a0 : Nat) (x1 : Int32) (μ0 : o_Mem) : Option (Int32 × o_Mem) :=
  o_bd (fX12_inWords rf a0 μ0) fun r1 μ1 =>
  if r1 = x1 then (
    o_bd (fX12_ahead rf a0 μ1) fun _u μ2 =>
    some (1, μ2))
  else (
    some (0, μ1))
set_option maxRecDepth 20000 in
theorem dnX12_isThere {X : o_Cx} (hX : o_ok X) {d : Nat} {a0 : Nat} {x1 : Int32} {μ0 : o_Mem} {q : Int32 → o_Mem → Prop} (h0 : o_is X a0 (.inl 12)) (h : o_Post (fX12_isThere (o_rf X) a0 x1 μ0) q) : o_Ev X (d + 5) mX12_isThere 0 [some (.ref (o_ad X a0)), some (.int x1)] [] μ0 (o_QZ q) := by
  unfold fX12_isThere at h
  refine s_aload_n (i := 0) dX12_isThere_0 rfl rfl ?_
  refine s_ldcS1 rfl dX12_isThere_1 ?_
  refine s_callVi (C := mX12_inWords) (As := [.ref (o_aK X 1)]) (rest := []) (L0 := [some (.ref (o_ad X a0)), some (.ref (o_aK X 1)), none, none, none, none, none]) hX h0 clX12_172 dX12_isThere_3 rfl rfl (Nat.le_of_ble_eq_true rfl) (Nat.le_of_ble_eq_true rfl) (dnX12_inWords hX h0 (o_bdp h)) (fun r1 μ1 h => ?_)
  refine s_iload_n (i := 1) dX12_isThere_6 rfl rfl ?_
  refine s_icmp_eq (tgt := 12) dX12_isThere_7 rfl (fun c1 => ?_) (fun c1 => ?_)
  · have h := o_if_t c1 h
    refine s_aload_n (i := 0) dX12_isThere_12 rfl rfl ?_
    refine s_callVu (C := mX12_ahead) (As := []) (rest := []) (L0 := [some (.ref (o_ad X a0)), none]) hX h0 clX12_163 dX12_isThere_13 rfl rfl (Nat.le_of_ble_eq_true rfl) (Nat.le_of_ble_eq_true rfl) (dnX12_ahead hX h0 (o_bdp h)) (fun _u μ2 h => ?_)
    refine s_iconst dX12_isThere_16 kI_1 ?_
    exact s_zreturn rfl (Or.inr rfl) dX12_isThere_17 ⟨_, rfl, (Or.inr rfl), o_ret h⟩
  · have h := o_if_f c1 h
    refine s_iconst dX12_isThere_10 kI_0 ?_
    exact s_zreturn rfl (Or.inl rfl) dX12_isThere_11 ⟨_, rfl, (Or.inl rfl), o_ret h⟩
theorem dX12_newOne_0 : decode cX12_newOne 0 = .ok (.aload_n 0, 1) := by decide +kernel
theorem dX12_newOne_1 : decode cX12_newOne 1 = .ok (.getfield 7, 3) := by decide +kernel
theorem dX12_newOne_4 : decode cX12_newOne 4 = .ok (.sipush 2504, 3) := by decide +kernel
theorem dX12_newOne_7 : decode cX12_newOne 7 = .ok (.iload_n 1, 1) := by decide +kernel
theorem dX12_newOne_8 : decode cX12_newOne 8 = .ok (.iadd, 1) := by decide +kernel
theorem dX12_newOne_9 : decode cX12_newOne 9 = .ok (.iaload, 1) := by decide +kernel
theorem dX12_newOne_10 : decode cX12_newOne 10 = .ok (.iload_n 2, 1) := by decide +kernel
theorem dX12_newOne_11 : decode cX12_newOne 11 = .ok (.if_icmp .ne 10, 3) := by decide +kernel
theorem dX12_newOne_14 : decode cX12_newOne 14 = .ok (.aload_n 0, 1) := by decide +kernel
theorem dX12_newOne_15 : decode cX12_newOne 15 = .ok (.bipush 6, 2) := by decide +kernel
theorem dX12_newOne_17 : decode cX12_newOne 17 = .ok (.invokevirtual 169, 3) := by decide +kernel
theorem dX12_newOne_20 : decode cX12_newOne 20 = .ok (.ireturn, 1) := by decide +kernel
theorem dX12_newOne_21 : decode cX12_newOne 21 = .ok (.aload_n 0, 1) := by decide +kernel
theorem dX12_newOne_22 : decode cX12_newOne 22 = .ok (.invokevirtual 163, 3) := by decide +kernel
theorem dX12_newOne_25 : decode cX12_newOne 25 = .ok (.aload_n 0, 1) := by decide +kernel
theorem dX12_newOne_26 : decode cX12_newOne 26 = .ok (.ldc 180, 2) := by decide +kernel
theorem dX12_newOne_28 : decode cX12_newOne 28 = .ok (.invokevirtual 182, 3) := by decide +kernel
theorem dX12_newOne_31 : decode cX12_newOne 31 = .ok (.ifCond .ne 9, 3) := by decide +kernel
theorem dX12_newOne_34 : decode cX12_newOne 34 = .ok (.aload_n 0, 1) := by decide +kernel
theorem dX12_newOne_35 : decode cX12_newOne 35 = .ok (.iconst 2, 1) := by decide +kernel
theorem dX12_newOne_36 : decode cX12_newOne 36 = .ok (.invokevirtual 169, 3) := by decide +kernel
theorem dX12_newOne_39 : decode cX12_newOne 39 = .ok (.ireturn, 1) := by decide +kernel
theorem dX12_newOne_40 : decode cX12_newOne 40 = .ok (.aload_n 0, 1) := by decide +kernel
theorem dX12_newOne_41 : decode cX12_newOne 41 = .ok (.bipush 64, 2) := by decide +kernel
theorem dX12_newOne_43 : decode cX12_newOne 43 = .ok (.aload_n 0, 1) := by decide +kernel
theorem dX12_newOne_44 : decode cX12_newOne 44 = .ok (.getfield 7, 3) := by decide +kernel
theorem dX12_newOne_47 : decode cX12_newOne 47 = .ok (.sipush 2504, 3) := by decide +kernel
theorem dX12_newOne_50 : decode cX12_newOne 50 = .ok (.iaload, 1) := by decide +kernel
theorem dX12_newOne_51 : decode cX12_newOne 51 = .ok (.invokevirtual 186, 3) := by decide +kernel
theorem dX12_newOne_54 : decode cX12_newOne 54 = .ok (.iconst (-1), 1) := by decide +kernel
theorem dX12_newOne_55 : decode cX12_newOne 55 = .ok (.if_icmp .ne 39, 3) := by decide +kernel
theorem dX12_newOne_58 : decode cX12_newOne 58 = .ok (.aload_n 0, 1) := by decide +kernel
theorem dX12_newOne_59 : decode cX12_newOne 59 = .ok (.bipush 70, 2) := by decide +kernel
theorem dX12_newOne_61 : decode cX12_newOne 61 = .ok (.aload_n 0, 1) := by decide +kernel
theorem dX12_newOne_62 : decode cX12_newOne 62 = .ok (.getfield 7, 3) := by decide +kernel
theorem dX12_newOne_65 : decode cX12_newOne 65 = .ok (.sipush 2505, 3) := by decide +kernel
theorem dX12_newOne_68 : decode cX12_newOne 68 = .ok (.iaload, 1) := by decide +kernel
theorem dX12_newOne_69 : decode cX12_newOne 69 = .ok (.invokevirtual 186, 3) := by decide +kernel
theorem dX12_newOne_72 : decode cX12_newOne 72 = .ok (.iconst (-1), 1) := by decide +kernel
theorem dX12_newOne_73 : decode cX12_newOne 73 = .ok (.if_icmp .ne 21, 3) := by decide +kernel
theorem dX12_newOne_76 : decode cX12_newOne 76 = .ok (.aload_n 0, 1) := by decide +kernel
theorem dX12_newOne_77 : decode cX12_newOne 77 = .ok (.bipush 74, 2) := by decide +kernel
theorem dX12_newOne_79 : decode cX12_newOne 79 = .ok (.aload_n 0, 1) := by decide +kernel
theorem dX12_newOne_80 : decode cX12_newOne 80 = .ok (.getfield 7, 3) := by decide +kernel
theorem dX12_newOne_83 : decode cX12_newOne 83 = .ok (.sipush 2506, 3) := by decide +kernel
theorem dX12_newOne_86 : decode cX12_newOne 86 = .ok (.iaload, 1) := by decide +kernel
theorem dX12_newOne_87 : decode cX12_newOne 87 = .ok (.invokevirtual 186, 3) := by decide +kernel
theorem dX12_newOne_90 : decode cX12_newOne 90 = .ok (.iconst (-1), 1) := by decide +kernel
theorem dX12_newOne_91 : decode cX12_newOne 91 = .ok (.if_icmp .eq 9, 3) := by decide +kernel
theorem dX12_newOne_94 : decode cX12_newOne 94 = .ok (.aload_n 0, 1) := by decide +kernel
theorem dX12_newOne_95 : decode cX12_newOne 95 = .ok (.iconst 3, 1) := by decide +kernel
theorem dX12_newOne_96 : decode cX12_newOne 96 = .ok (.invokevirtual 169, 3) := by decide +kernel
theorem dX12_newOne_99 : decode cX12_newOne 99 = .ok (.ireturn, 1) := by decide +kernel
theorem dX12_newOne_100 : decode cX12_newOne 100 = .ok (.aload_n 0, 1) := by decide +kernel
theorem dX12_newOne_101 : decode cX12_newOne 101 = .ok (.getfield 13, 3) := by decide +kernel
theorem dX12_newOne_104 : decode cX12_newOne 104 = .ok (.bipush 64, 2) := by decide +kernel
theorem dX12_newOne_106 : decode cX12_newOne 106 = .ok (.iload_n 3, 1) := by decide +kernel
theorem dX12_newOne_107 : decode cX12_newOne 107 = .ok (.iadd, 1) := by decide +kernel
theorem dX12_newOne_108 : decode cX12_newOne 108 = .ok (.aload_n 0, 1) := by decide +kernel
theorem dX12_newOne_109 : decode cX12_newOne 109 = .ok (.getfield 7, 3) := by decide +kernel
theorem dX12_newOne_112 : decode cX12_newOne 112 = .ok (.sipush 2504, 3) := by decide +kernel
theorem dX12_newOne_115 : decode cX12_newOne 115 = .ok (.iload_n 1, 1) := by decide +kernel
theorem dX12_newOne_116 : decode cX12_newOne 116 = .ok (.iadd, 1) := by decide +kernel
theorem dX12_newOne_117 : decode cX12_newOne 117 = .ok (.iaload, 1) := by decide +kernel
theorem dX12_newOne_118 : decode cX12_newOne 118 = .ok (.iadd, 1) := by decide +kernel
theorem dX12_newOne_119 : decode cX12_newOne 119 = .ok (.aload_n 0, 1) := by decide +kernel
theorem dX12_newOne_120 : decode cX12_newOne 120 = .ok (.invokevirtual 176, 3) := by decide +kernel
theorem dX12_newOne_123 : decode cX12_newOne 123 = .ok (.lastore, 1) := by decide +kernel
theorem dX12_newOne_124 : decode cX12_newOne 124 = .ok (.aload_n 0, 1) := by decide +kernel
theorem dX12_newOne_125 : decode cX12_newOne 125 = .ok (.invokevirtual 163, 3) := by decide +kernel
theorem dX12_newOne_128 : decode cX12_newOne 128 = .ok (.iconst 1, 1) := by decide +kernel
theorem dX12_newOne_129 : decode cX12_newOne 129 = .ok (.ireturn, 1) := by decide +kernel
noncomputable def fX12_newOne_j94 (rf : Nat → Nat → Nat) (a0 : Nat) (μ0 : o_Mem) : Option (Int32 × o_Mem) :=
  o_bd (fX12_fails rf a0 3 μ0) fun r1 μ1 =>
  some (r1, μ1)
noncomputable def fX12_newOne (rf : Nat → Nat → Nat) (a0 : Nat) (x1 : Int32) (x2 : Int32) (x3 : Int32) (μ0 : o_Mem) : Option (Int32 × o_Mem) :=
  o_ck (0 ≤ ((2504 + x1)).toInt ∧ ((2504 + x1)).toInt < 3756) <|
  if (μ0.1 (rf a0 0) ((2504 + x1)).toNatClampNeg) = x2 then (
    o_bd (fX12_fails rf a0 6 μ0) fun r7 μ10 =>
    some (r7, μ10))
  else (
    o_bd (fX12_ahead rf a0 μ0) fun _u μ1 =>
    o_bd (fX12_isName rf a0 μ1) fun r1 μ2 =>
    if r1 = 0 then (
      o_bd (fX12_fails rf a0 2 μ2) fun r6 μ9 =>
      some (r6, μ9))
    else (
      o_bd (fX12_findHere rf a0 64 (μ2.1 (rf a0 0) 2504) μ2) fun r2 μ3 =>
      if r2 = (-1) then (
        o_bd (fX12_findHere rf a0 70 (μ3.1 (rf a0 0) 2505) μ3) fun r3 μ4 =>
        if r3 = (-1) then (
          o_bd (fX12_findHere rf a0 74 (μ4.1 (rf a0 0) 2506) μ4) fun r4 μ5 =>
          if r4 = (-1) then (
            o_ck (0 ≤ ((2504 + x1)).toInt ∧ ((2504 + x1)).toInt < 3756) <|
            o_bd (fX12_nameHere rf a0 μ5) fun r5 μ6 =>
            o_ck (0 ≤ (((64 + x3) + (μ5.1 (rf a0 0) ((2504 + x1)).toNatClampNeg))).toInt ∧ (((64 + x3) + (μ5.1 (rf a0 0) ((2504 + x1)).toNatClampNeg))).toInt < 96) <|
            o_seq (o_wL μ6 (rf a0 1) ((((64 + x3) + (μ5.1 (rf a0 0) ((2504 + x1)).toNatClampNeg))).toNatClampNeg) r5) fun μ7 =>
            o_bd (fX12_ahead rf a0 μ7) fun _u μ8 =>
            some (1, μ8))
          else (
            fX12_newOne_j94 rf a0 μ5))
        else (
          fX12_newOne_j94 rf a0 μ4))
      else (
        fX12_newOne_j94 rf a0 μ3)))
set_option maxRecDepth 20000 in
theorem dnX12_newOne_j94 {X : o_Cx} (hX : o_ok X) {d : Nat} {a0 : Nat} {μ0 : o_Mem} {q : Int32 → o_Mem → Prop} (h0 : o_is X a0 (.inl 12)) (h : o_Post (fX12_newOne_j94 (o_rf X) a0 μ0) q) : o_Ev X (d + 6) mX12_newOne 94 [some (.ref (o_ad X a0)), none, none, none] [] μ0 (o_QZ q) := by
  unfold fX12_newOne_j94 at h
  refine s_aload_n (i := 0) dX12_newOne_94 rfl rfl ?_
  refine s_iconst dX12_newOne_95 kI_3 ?_
  refine s_callVz (C := mX12_fails) (As := [.int 3]) (rest := []) (L0 := [some (.ref (o_ad X a0)), some (.int 3)]) hX h0 clX12_169 dX12_newOne_96 rfl rfl (Nat.le_of_ble_eq_true rfl) (Nat.le_of_ble_eq_true rfl) (dnX12_fails hX h0 (o_bdp h)) (fun r1 μ1 zr1 h => ?_)
  exact s_zreturn rfl zr1 dX12_newOne_99 ⟨_, rfl, zr1, o_ret h⟩
set_option maxRecDepth 20000 in
theorem dnX12_newOne {X : o_Cx} (hX : o_ok X) {d : Nat} {a0 : Nat} {x1 : Int32} {x2 : Int32} {x3 : Int32} {μ0 : o_Mem} {q : Int32 → o_Mem → Prop} (h0 : o_is X a0 (.inl 12)) (h : o_Post (fX12_newOne (o_rf X) a0 x1 x2 x3 μ0) q) : o_Ev X (d + 6) mX12_newOne 0 [some (.ref (o_ad X a0)), some (.int x1), some (.int x2), some (.int x3)] [] μ0 (o_QZ q) := by
  unfold fX12_newOne at h
  refine s_aload_n (i := 0) dX12_newOne_0 rfl rfl ?_
  refine s_getR hX h0 flX12_7 rfl dX12_newOne_1 (fun (g1 : o_is X (o_rf X a0 0) (.inr (0, 3756))) => ?_)
  refine s_sipush dX12_newOne_4 kS_2504 ?_
  refine s_iload_n (i := 1) dX12_newOne_7 rfl rfl ?_
  refine s_iadd dX12_newOne_8 ?_
  have hc := o_ck_c h
  have h := o_ck_k h
  refine s_ialdK g1 hc rfl dX12_newOne_9 ?_
  refine s_iload_n (i := 2) dX12_newOne_10 rfl rfl ?_
  refine s_icmp_ne (tgt := 21) dX12_newOne_11 rfl (fun c1 => ?_) (fun c1 => ?_)
  · have h := o_if_f c1 h
    refine s_aload_n (i := 0) dX12_newOne_21 rfl rfl ?_
    refine s_callVu (C := mX12_ahead) (As := []) (rest := []) (L0 := [some (.ref (o_ad X a0)), none]) hX h0 clX12_163 dX12_newOne_22 rfl rfl (Nat.le_of_ble_eq_true rfl) (Nat.le_of_ble_eq_true rfl) (dnX12_ahead hX h0 (o_bdp h)) (fun _u μ1 h => ?_)
    refine s_aload_n (i := 0) dX12_newOne_25 rfl rfl ?_
    refine s_ldcS1 rfl dX12_newOne_26 ?_
    refine s_callVz (C := mX12_isName) (As := [.ref (o_aK X 1)]) (rest := []) (L0 := [some (.ref (o_ad X a0)), some (.ref (o_aK X 1))]) hX h0 clX12_182 dX12_newOne_28 rfl rfl (Nat.le_of_ble_eq_true rfl) (Nat.le_of_ble_eq_true rfl) (dnX12_isName hX h0 (o_bdp h)) (fun r1 μ2 zr1 h => ?_)
    refine s_if_ne (tgt := 40) dX12_newOne_31 rfl (fun c1 => ?_) (fun c1 => ?_)
    · have h := o_if_f c1 h
      refine s_aload_n (i := 0) dX12_newOne_40 rfl rfl ?_
      refine s_bipush dX12_newOne_41 kB_64 ?_
      refine s_aload_n (i := 0) dX12_newOne_43 rfl rfl ?_
      refine s_getR hX h0 flX12_7 rfl dX12_newOne_44 (fun (g2 : o_is X (o_rf X a0 0) (.inr (0, 3756))) => ?_)
      refine s_sipush dX12_newOne_47 kS_2504 ?_
      refine s_ialdK g2 ⟨by decide, by decide⟩ kN_2504 dX12_newOne_50 ?_
      refine s_callVi (C := mX12_findHere) (As := [.int 64, .int (μ2.1 (o_rf X a0 0) 2504)]) (rest := []) (L0 := [some (.ref (o_ad X a0)), some (.int 64), some (.int (μ2.1 (o_rf X a0 0) 2504)), none]) hX h0 clX12_186 dX12_newOne_51 rfl rfl (Nat.le_of_ble_eq_true rfl) (Nat.le_of_ble_eq_true rfl) (dnX12_findHere hX h0 (o_bdp h)) (fun r2 μ3 h => ?_)
      refine s_iconst dX12_newOne_54 kI_m1 ?_
      refine s_icmp_ne (tgt := 94) dX12_newOne_55 rfl (fun c1 => ?_) (fun c1 => ?_)
      · have h := o_if_f c1 h
        refine s_mask [true, false, false, false] (L' := [some (.ref (o_ad X a0)), none, none, none]) rfl ?_
        exact dnX12_newOne_j94 hX h0 h
      · have h := o_if_t c1 h
        refine s_aload_n (i := 0) dX12_newOne_58 rfl rfl ?_
        refine s_bipush dX12_newOne_59 kB_70 ?_
        refine s_aload_n (i := 0) dX12_newOne_61 rfl rfl ?_
        refine s_getR hX h0 flX12_7 rfl dX12_newOne_62 (fun (g3 : o_is X (o_rf X a0 0) (.inr (0, 3756))) => ?_)
        refine s_sipush dX12_newOne_65 kS_2505 ?_
        refine s_ialdK g3 ⟨by decide, by decide⟩ kN_2505 dX12_newOne_68 ?_
        refine s_callVi (C := mX12_findHere) (As := [.int 70, .int (μ3.1 (o_rf X a0 0) 2505)]) (rest := []) (L0 := [some (.ref (o_ad X a0)), some (.int 70), some (.int (μ3.1 (o_rf X a0 0) 2505)), none]) hX h0 clX12_186 dX12_newOne_69 rfl rfl (Nat.le_of_ble_eq_true rfl) (Nat.le_of_ble_eq_true rfl) (dnX12_findHere hX h0 (o_bdp h)) (fun r3 μ4 h => ?_)
        refine s_iconst dX12_newOne_72 kI_m1 ?_
        refine s_icmp_ne (tgt := 94) dX12_newOne_73 rfl (fun c1 => ?_) (fun c1 => ?_)
        · have h := o_if_f c1 h
          refine s_mask [true, false, false, false] (L' := [some (.ref (o_ad X a0)), none, none, none]) rfl ?_
          exact dnX12_newOne_j94 hX h0 h
        · have h := o_if_t c1 h
          refine s_aload_n (i := 0) dX12_newOne_76 rfl rfl ?_
          refine s_bipush dX12_newOne_77 kB_74 ?_
          refine s_aload_n (i := 0) dX12_newOne_79 rfl rfl ?_
          refine s_getR hX h0 flX12_7 rfl dX12_newOne_80 (fun (g4 : o_is X (o_rf X a0 0) (.inr (0, 3756))) => ?_)
          refine s_sipush dX12_newOne_83 kS_2506 ?_
          refine s_ialdK g4 ⟨by decide, by decide⟩ kN_2506 dX12_newOne_86 ?_
          refine s_callVi (C := mX12_findHere) (As := [.int 74, .int (μ4.1 (o_rf X a0 0) 2506)]) (rest := []) (L0 := [some (.ref (o_ad X a0)), some (.int 74), some (.int (μ4.1 (o_rf X a0 0) 2506)), none]) hX h0 clX12_186 dX12_newOne_87 rfl rfl (Nat.le_of_ble_eq_true rfl) (Nat.le_of_ble_eq_true rfl) (dnX12_findHere hX h0 (o_bdp h)) (fun r4 μ5 h => ?_)
          refine s_iconst dX12_newOne_90 kI_m1 ?_
          refine s_icmp_eq (tgt := 100) dX12_newOne_91 rfl (fun c1 => ?_) (fun c1 => ?_)
          · have h := o_if_t c1 h
            refine s_aload_n (i := 0) dX12_newOne_100 rfl rfl ?_
            refine s_getR hX h0 flX12_13 rfl dX12_newOne_101 (fun (g5 : o_is X (o_rf X a0 1) (.inr (2, 96))) => ?_)
            refine s_bipush dX12_newOne_104 kB_64 ?_
            refine s_iload_n (i := 3) dX12_newOne_106 rfl rfl ?_
            refine s_iadd dX12_newOne_107 ?_
            refine s_aload_n (i := 0) dX12_newOne_108 rfl rfl ?_
            refine s_getR hX h0 flX12_7 rfl dX12_newOne_109 (fun (g6 : o_is X (o_rf X a0 0) (.inr (0, 3756))) => ?_)
            refine s_sipush dX12_newOne_112 kS_2504 ?_
            refine s_iload_n (i := 1) dX12_newOne_115 rfl rfl ?_
            refine s_iadd dX12_newOne_116 ?_
            have hc := o_ck_c h
            have h := o_ck_k h
            refine s_ialdK g6 hc rfl dX12_newOne_117 ?_
            refine s_iadd dX12_newOne_118 ?_
            refine s_aload_n (i := 0) dX12_newOne_119 rfl rfl ?_
            refine s_callVl (C := mX12_nameHere) (As := []) (rest := [.int ((64 + x3) + (μ5.1 (o_rf X a0 0) ((2504 + x1)).toNatClampNeg)), .ref (o_ad X (o_rf X a0 1))]) (L0 := [some (.ref (o_ad X a0)), none, none, none]) hX h0 clX12_176 dX12_newOne_120 rfl rfl (Nat.le_of_ble_eq_true rfl) (Nat.le_of_ble_eq_true rfl) (dnX12_nameHere hX h0 (o_bdp h)) (fun r5 μ6 h => ?_)
            have hc := o_ck_c h
            have h := o_ck_k h
            refine s_lastK hX g5 hc rfl dX12_newOne_123 (o_gen h (fun μ7 h => ?_))
            refine s_aload_n (i := 0) dX12_newOne_124 rfl rfl ?_
            refine s_callVu (C := mX12_ahead) (As := []) (rest := []) (L0 := [some (.ref (o_ad X a0)), none]) hX h0 clX12_163 dX12_newOne_125 rfl rfl (Nat.le_of_ble_eq_true rfl) (Nat.le_of_ble_eq_true rfl) (dnX12_ahead hX h0 (o_bdp h)) (fun _u μ8 h => ?_)
            refine s_iconst dX12_newOne_128 kI_1 ?_
            exact s_zreturn rfl (Or.inr rfl) dX12_newOne_129 ⟨_, rfl, (Or.inr rfl), o_ret h⟩
          · have h := o_if_f c1 h
            refine s_mask [true, false, false, false] (L' := [some (.ref (o_ad X a0)), none, none, none]) rfl ?_
            exact dnX12_newOne_j94 hX h0 h
    · have h := o_if_t c1 h
      refine s_aload_n (i := 0) dX12_newOne_34 rfl rfl ?_
      refine s_iconst dX12_newOne_35 kI_2 ?_
      refine s_callVz (C := mX12_fails) (As := [.int 2]) (rest := []) (L0 := [some (.ref (o_ad X a0)), some (.int 2)]) hX h0 clX12_169 dX12_newOne_36 rfl rfl (Nat.le_of_ble_eq_true rfl) (Nat.le_of_ble_eq_true rfl) (dnX12_fails hX h0 (o_bdp h)) (fun r6 μ9 zr6 h => ?_)
      exact s_zreturn rfl zr6 dX12_newOne_39 ⟨_, rfl, zr6, o_ret h⟩
  · have h := o_if_t c1 h
    refine s_aload_n (i := 0) dX12_newOne_14 rfl rfl ?_
    refine s_bipush dX12_newOne_15 kB_6 ?_
    refine s_callVz (C := mX12_fails) (As := [.int 6]) (rest := []) (L0 := [some (.ref (o_ad X a0)), some (.int 6)]) hX h0 clX12_169 dX12_newOne_17 rfl rfl (Nat.le_of_ble_eq_true rfl) (Nat.le_of_ble_eq_true rfl) (dnX12_fails hX h0 (o_bdp h)) (fun r7 μ10 zr7 h => ?_)
    exact s_zreturn rfl zr7 dX12_newOne_20 ⟨_, rfl, zr7, o_ret h⟩
