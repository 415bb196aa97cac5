theorem dX12_weeks_0 : decode cX12_weeks 0 = .ok (.aload_n 0, 1) := by decide +kernel
theorem dX12_weeks_1 : decode cX12_weeks 1 = .ok (.iload_n 1, 1) := by decide +kernel
theorem dX12_weeks_2 : decode cX12_weeks 2 = .ok (.sipush 300, 3) := by decide +kernel
theorem dX12_weeks_5 : decode cX12_weeks 5 = .ok (.invokevirtual 242, 3) := by decide +kernel
theorem dX12_weeks_8 : decode cX12_weeks 8 = .ok (.ifCond .ne 9, 3) := by decide +kernel
theorem dX12_weeks_11 : decode cX12_weeks 11 = .ok (.aload_n 0, 1) := by decide +kernel
theorem dX12_weeks_12 : decode cX12_weeks 12 = .ok (.iconst 1, 1) := by decide +kernel
theorem dX12_weeks_13 : decode cX12_weeks 13 = .ok (.invokevirtual 87, 3) := by decide +kernel
theorem dX12_weeks_16 : decode cX12_weeks 16 = .ok (.ireturn, 1) := by decide +kernel
theorem dX12_weeks_17 : decode cX12_weeks 17 = .ok (.aload_n 0, 1) := by decide +kernel
theorem dX12_weeks_18 : decode cX12_weeks 18 = .ok (.getfield 7, 3) := by decide +kernel
theorem dX12_weeks_21 : decode cX12_weeks 21 = .ok (.sipush 2516, 3) := by decide +kernel
theorem dX12_weeks_24 : decode cX12_weeks 24 = .ok (.iconst 0, 1) := by decide +kernel
theorem dX12_weeks_25 : decode cX12_weeks 25 = .ok (.iastore, 1) := by decide +kernel
theorem dX12_weeks_26 : decode cX12_weeks 26 = .ok (.aload_n 0, 1) := by decide +kernel
theorem dX12_weeks_27 : decode cX12_weeks 27 = .ok (.iconst 0, 1) := by decide +kernel
theorem dX12_weeks_28 : decode cX12_weeks 28 = .ok (.putfield 257, 3) := by decide +kernel
theorem dX12_weeks_31 : decode cX12_weeks 31 = .ok (.aload_n 0, 1) := by decide +kernel
theorem dX12_weeks_32 : decode cX12_weeks 32 = .ok (.iconst 0, 1) := by decide +kernel
theorem dX12_weeks_33 : decode cX12_weeks 33 = .ok (.putfield 260, 3) := by decide +kernel
theorem dX12_weeks_36 : decode cX12_weeks 36 = .ok (.iconst 1, 1) := by decide +kernel
theorem dX12_weeks_37 : decode cX12_weeks 37 = .ok (.istore_n 2, 1) := by decide +kernel
theorem dX12_weeks_38 : decode cX12_weeks 38 = .ok (.iload_n 2, 1) := by decide +kernel
theorem dX12_weeks_39 : decode cX12_weeks 39 = .ok (.ifCond .eq 18, 3) := by decide +kernel
theorem dX12_weeks_42 : decode cX12_weeks 42 = .ok (.aload_n 0, 1) := by decide +kernel
theorem dX12_weeks_43 : decode cX12_weeks 43 = .ok (.getfield 132, 3) := by decide +kernel
theorem dX12_weeks_46 : decode cX12_weeks 46 = .ok (.ifCond .eq 11, 3) := by decide +kernel
theorem dX12_weeks_49 : decode cX12_weeks 49 = .ok (.aload_n 0, 1) := by decide +kernel
theorem dX12_weeks_50 : decode cX12_weeks 50 = .ok (.invokevirtual 266, 3) := by decide +kernel
theorem dX12_weeks_53 : decode cX12_weeks 53 = .ok (.istore_n 2, 1) := by decide +kernel
theorem dX12_weeks_54 : decode cX12_weeks 54 = .ok (.goto (-16), 3) := by decide +kernel
theorem dX12_weeks_57 : decode cX12_weeks 57 = .ok (.aload_n 0, 1) := by decide +kernel
theorem dX12_weeks_58 : decode cX12_weeks 58 = .ok (.getfield 157, 3) := by decide +kernel
theorem dX12_weeks_61 : decode cX12_weeks 61 = .ok (.ifCond .ne 16, 3) := by decide +kernel
theorem dX12_weeks_64 : decode cX12_weeks 64 = .ok (.aload_n 0, 1) := by decide +kernel
theorem dX12_weeks_65 : decode cX12_weeks 65 = .ok (.getfield 257, 3) := by decide +kernel
theorem dX12_weeks_68 : decode cX12_weeks 68 = .ok (.ifCond .le 9, 3) := by decide +kernel
theorem dX12_weeks_71 : decode cX12_weeks 71 = .ok (.aload_n 0, 1) := by decide +kernel
theorem dX12_weeks_72 : decode cX12_weeks 72 = .ok (.iconst 2, 1) := by decide +kernel
theorem dX12_weeks_73 : decode cX12_weeks 73 = .ok (.invokevirtual 169, 3) := by decide +kernel
theorem dX12_weeks_76 : decode cX12_weeks 76 = .ok (.pop, 1) := by decide +kernel
theorem dX12_weeks_77 : decode cX12_weeks 77 = .ok (.aload_n 0, 1) := by decide +kernel
theorem dX12_weeks_78 : decode cX12_weeks 78 = .ok (.getfield 157, 3) := by decide +kernel
theorem dX12_weeks_81 : decode cX12_weeks 81 = .ok (.ifCond .ne 51, 3) := by decide +kernel
theorem dX12_weeks_84 : decode cX12_weeks 84 = .ok (.aload_n 0, 1) := by decide +kernel
theorem dX12_weeks_85 : decode cX12_weeks 85 = .ok (.getfield 7, 3) := by decide +kernel
theorem dX12_weeks_88 : decode cX12_weeks 88 = .ok (.bipush 12, 2) := by decide +kernel
theorem dX12_weeks_90 : decode cX12_weeks 90 = .ok (.aload_n 0, 1) := by decide +kernel
theorem dX12_weeks_91 : decode cX12_weeks 91 = .ok (.getfield 7, 3) := by decide +kernel
theorem dX12_weeks_94 : decode cX12_weeks 94 = .ok (.sipush 2516, 3) := by decide +kernel
theorem dX12_weeks_97 : decode cX12_weeks 97 = .ok (.iaload, 1) := by decide +kernel
theorem dX12_weeks_98 : decode cX12_weeks 98 = .ok (.iastore, 1) := by decide +kernel
theorem dX12_weeks_99 : decode cX12_weeks 99 = .ok (.sipush 259, 3) := by decide +kernel
theorem dX12_weeks_102 : decode cX12_weeks 102 = .ok (.istore_n 3, 1) := by decide +kernel
theorem dX12_weeks_103 : decode cX12_weeks 103 = .ok (.iload_n 3, 1) := by decide +kernel
theorem dX12_weeks_104 : decode cX12_weeks 104 = .ok (.sipush 619, 3) := by decide +kernel
theorem dX12_weeks_107 : decode cX12_weeks 107 = .ok (.if_icmp .ge 25, 3) := by decide +kernel
theorem dX12_weeks_110 : decode cX12_weeks 110 = .ok (.aload_n 0, 1) := by decide +kernel
theorem dX12_weeks_111 : decode cX12_weeks 111 = .ok (.getfield 7, 3) := by decide +kernel
theorem dX12_weeks_114 : decode cX12_weeks 114 = .ok (.iload_n 3, 1) := by decide +kernel
theorem dX12_weeks_115 : decode cX12_weeks 115 = .ok (.aload_n 0, 1) := by decide +kernel
theorem dX12_weeks_116 : decode cX12_weeks 116 = .ok (.getfield 7, 3) := by decide +kernel
theorem dX12_weeks_119 : decode cX12_weeks 119 = .ok (.sipush 2504, 3) := by decide +kernel
theorem dX12_weeks_122 : decode cX12_weeks 122 = .ok (.iload_n 3, 1) := by decide +kernel
theorem dX12_weeks_123 : decode cX12_weeks 123 = .ok (.iadd, 1) := by decide +kernel
theorem dX12_weeks_124 : decode cX12_weeks 124 = .ok (.iaload, 1) := by decide +kernel
theorem dX12_weeks_125 : decode cX12_weeks 125 = .ok (.iastore, 1) := by decide +kernel
theorem dX12_weeks_126 : decode cX12_weeks 126 = .ok (.iinc 3 1, 3) := by decide +kernel
theorem dX12_weeks_129 : decode cX12_weeks 129 = .ok (.goto (-26), 3) := by decide +kernel
theorem dX12_weeks_132 : decode cX12_weeks 132 = .ok (.aload_n 0, 1) := by decide +kernel
theorem dX12_weeks_133 : decode cX12_weeks 133 = .ok (.aload_n 0, 1) := by decide +kernel
theorem dX12_weeks_134 : decode cX12_weeks 134 = .ok (.getfield 260, 3) := by decide +kernel
theorem dX12_weeks_137 : decode cX12_weeks 137 = .ok (.invokevirtual 248, 3) := by decide +kernel
theorem dX12_weeks_140 : decode cX12_weeks 140 = .ok (.ireturn, 1) := by decide +kernel
noncomputable def fX12_weeks_s38 (rf : Nat → Nat → Nat) (a0 : Nat) (τ38 : Int32) (μ0 : o_Mem) : Option ((Nat × (Int32)) × o_Mem) :=
  if τ38 = 0 then (
    some ((57, 0), μ0))
  else (
    if (μ0.1 a0 12) = 0 then (
      some ((57, 0), μ0))
    else (
      o_bd (fX12_weekStep rf a0 μ0) fun r1 μ1 =>
      some ((38, r1), μ1)))
noncomputable def fX12_weeks_j132 (rf : Nat → Nat → Nat) (a0 : Nat) (μ0 : o_Mem) : Option (Int32 × o_Mem) :=
  o_bd (fX12_taken rf a0 (μ0.1 a0 23) μ0) fun r1 μ1 =>
  some (r1, μ1)
noncomputable def fX12_weeks_s103 (rf : Nat → Nat → Nat) (a0 : Nat) (τ103 : Int32) (μ0 : o_Mem) : Option ((Nat × (Int32)) × o_Mem) :=
  if 619 ≤ τ103 then (
    some ((132, 0), μ0))
  else (
    o_ck (0 ≤ ((2504 + τ103)).toInt ∧ ((2504 + τ103)).toInt < 3756) <|
    o_ck (0 ≤ (τ103).toInt ∧ (τ103).toInt < 3756) <|
    o_seq (o_wI μ0 (rf a0 0) τ103.toNatClampNeg (μ0.1 (rf a0 0) ((2504 + τ103)).toNatClampNeg)) fun μ1 =>
    some ((103, (τ103 + 1)), μ1))
noncomputable def fX12_weeks_j77 (rf : Nat → Nat → Nat) (a0 : Nat) (μ0 : o_Mem) : Option (Int32 × o_Mem) :=
  if (μ0.1 a0 18) = 0 then (
    o_seq (o_wI μ0 (rf a0 0) 12 (μ0.1 (rf a0 0) 2516)) fun μ1 =>
    o_bd (o_lp 103 (fX12_weeks_s103 rf a0) o_fuel (259 : Int32) μ1) fun ex2 μ2 =>
    if ex2.1 = 132 then (
      fX12_weeks_j132 rf a0 μ2)
    else
      none)
  else (
    fX12_weeks_j132 rf a0 μ0)
noncomputable def fX12_weeks_j57 (rf : Nat → Nat → Nat) (a0 : Nat) (μ0 : o_Mem) : Option (Int32 × o_Mem) :=
  if (μ0.1 a0 18) = 0 then (
    if (μ0.1 a0 22) ≤ 0 then (
      fX12_weeks_j77 rf a0 μ0)
    else (
      o_bd (fX12_fails rf a0 2 μ0) fun r1 μ1 =>
      fX12_weeks_j77 rf a0 μ1))
  else (
    fX12_weeks_j77 rf a0 μ0)
noncomputable def fX12_weeks (rf : Nat → Nat → Nat) (a0 : Nat) (x1 : Int32) (μ0 : o_Mem) : Option (Int32 × o_Mem) :=
  o_bd (fX12_begins rf a0 x1 300 μ0) fun r1 μ1 =>
  if r1 = 0 then (
    o_bd (fX12_refuse rf a0 1 μ1) fun r2 μ6 =>
    some (r2, μ6))
  else (
    o_seq (o_wI μ1 (rf a0 0) 2516 0) fun μ2 =>
    o_seq (o_wI μ2 a0 22 0) fun μ3 =>
    o_seq (o_wI μ3 a0 23 0) fun μ4 =>
    o_bd (o_lp 38 (fX12_weeks_s38 rf a0) o_fuel (1 : Int32) μ4) fun ex5 μ5 =>
    if ex5.1 = 57 then (
      fX12_weeks_j57 rf a0 μ5)
    else
      none)
set_option maxRecDepth 20000 in
theorem dnX12_weeks_s38 {X : o_Cx} (hX : o_ok X) {d : Nat} {a0 : Nat} {τ38 : Int32} {μ0 : o_Mem} {K : (Nat × (Int32)) → o_Mem → Prop} {Q : Option Value → o_Mem → Prop} (h0 : o_is X a0 (.inl 12)) (h : o_Post (fX12_weeks_s38 (o_rf X) a0 τ38 μ0) K) (kh : ∀ (τ38 : Int32) (μ : o_Mem), K (38, τ38) μ → o_Ev X (d + 10) mX12_weeks 38 [some (.ref (o_ad X a0)), none, some (.int τ38), none] [] μ Q) (k57 : ∀ (τ38 : Int32) (μ : o_Mem), K (57, τ38) μ → o_Ev X (d + 10) mX12_weeks 57 [some (.ref (o_ad X a0)), none, none, none] [] μ Q) : o_Ev X (d + 10) mX12_weeks 38 [some (.ref (o_ad X a0)), none, some (.int τ38), none] [] μ0 Q := by
  unfold fX12_weeks_s38 at h
  refine s_iload_n (i := 2) dX12_weeks_38 rfl rfl ?_
  refine s_if_eq (tgt := 57) dX12_weeks_39 rfl (fun c1 => ?_) (fun c1 => ?_)
  · have h := o_if_t c1 h
    refine s_mask [true, false, false, false] (L' := [some (.ref (o_ad X a0)), none, none, none]) rfl ?_
    exact k57 0 _ (o_ret h)
  · have h := o_if_f c1 h
    refine s_aload_n (i := 0) dX12_weeks_42 rfl rfl ?_
    refine s_getI h0 flX12_132 rfl dX12_weeks_43 ?_
    refine s_if_eq (tgt := 57) dX12_weeks_46 rfl (fun c1 => ?_) (fun c1 => ?_)
    · have h := o_if_t c1 h
      refine s_mask [true, false, false, false] (L' := [some (.ref (o_ad X a0)), none, none, none]) rfl ?_
      exact k57 0 _ (o_ret h)
    · have h := o_if_f c1 h
      refine s_aload_n (i := 0) dX12_weeks_49 rfl rfl ?_
      refine s_callVz (C := mX12_weekStep) (As := []) (rest := []) (L0 := [some (.ref (o_ad X a0)), none, none, none, none, none]) hX h0 clX12_266 dX12_weeks_50 rfl rfl (Nat.le_of_ble_eq_true rfl) (Nat.le_of_ble_eq_true rfl) (dnX12_weekStep hX h0 (o_bdp h)) (fun r1 μ1 zr1 h => ?_)
      refine s_istore_n (i := 2) dX12_weeks_53 rfl (Nat.le_of_ble_eq_true rfl) rfl ?_
      refine s_goto (tgt := 38) dX12_weeks_54 rfl ?_
      refine s_mask [true, false, true, false] (L' := [some (.ref (o_ad X a0)), none, some (.int r1), none]) rfl ?_
      exact kh r1 _ (o_ret h)
set_option maxRecDepth 20000 in
theorem dnX12_weeks_j132 {X : o_Cx} (hX : o_ok X) {d : Nat} {a0 : Nat} {μ0 : o_Mem} {q : Int32 → o_Mem → Prop} (h0 : o_is X a0 (.inl 12)) (h : o_Post (fX12_weeks_j132 (o_rf X) a0 μ0) q) : o_Ev X (d + 10) mX12_weeks 132 [some (.ref (o_ad X a0)), none, none, none] [] μ0 (o_QI q) := by
  unfold fX12_weeks_j132 at h
  refine s_aload_n (i := 0) dX12_weeks_132 rfl rfl ?_
  refine s_aload_n (i := 0) dX12_weeks_133 rfl rfl ?_
  refine s_getI h0 flX12_260 rfl dX12_weeks_134 ?_
  refine s_callVi (C := mX12_taken) (As := [.int (μ0.1 a0 23)]) (rest := []) (L0 := [some (.ref (o_ad X a0)), some (.int (μ0.1 a0 23))]) hX h0 clX12_248 dX12_weeks_137 rfl rfl (Nat.le_of_ble_eq_true rfl) (Nat.le_of_ble_eq_true rfl) (dnX12_taken hX h0 (o_bdp h)) (fun r1 μ1 h => ?_)
  exact s_ireturn rfl dX12_weeks_140 ⟨_, rfl, o_ret h⟩
set_option maxRecDepth 20000 in
theorem dnX12_weeks_s103 {X : o_Cx} (hX : o_ok X) {d : Nat} {a0 : Nat} {τ103 : Int32} {μ0 : o_Mem} {K : (Nat × (Int32)) → o_Mem → Prop} {Q : Option Value → o_Mem → Prop} (h0 : o_is X a0 (.inl 12)) (h : o_Post (fX12_weeks_s103 (o_rf X) a0 τ103 μ0) K) (kh : ∀ (τ103 : Int32) (μ : o_Mem), K (103, τ103) μ → o_Ev X (d + 10) mX12_weeks 103 [some (.ref (o_ad X a0)), none, none, some (.int τ103)] [] μ Q) (k132 : ∀ (τ103 : Int32) (μ : o_Mem), K (132, τ103) μ → o_Ev X (d + 10) mX12_weeks 132 [some (.ref (o_ad X a0)), none, none, none] [] μ Q) : o_Ev X (d + 10) mX12_weeks 103 [some (.ref (o_ad X a0)), none, none, some (.int τ103)] [] μ0 Q := by
  unfold fX12_weeks_s103 at h
  refine s_iload_n (i := 3) dX12_weeks_103 rfl rfl ?_
  refine s_sipush dX12_weeks_104 kS_619 ?_
  refine s_icmp_ge (tgt := 132) dX12_weeks_107 rfl (fun c1 => ?_) (fun c1 => ?_)
  · have h := o_if_t c1 h
    refine s_mask [true, false, false, false] (L' := [some (.ref (o_ad X a0)), none, none, none]) rfl ?_
    exact k132 0 _ (o_ret h)
  · have h := o_if_f c1 h
    refine s_aload_n (i := 0) dX12_weeks_110 rfl rfl ?_
    refine s_getR hX h0 flX12_7 rfl dX12_weeks_111 (fun (g1 : o_is X (o_rf X a0 0) (.inr (0, 3756))) => ?_)
    refine s_iload_n (i := 3) dX12_weeks_114 rfl rfl ?_
    refine s_aload_n (i := 0) dX12_weeks_115 rfl rfl ?_
    refine s_getR hX h0 flX12_7 rfl dX12_weeks_116 (fun (g2 : o_is X (o_rf X a0 0) (.inr (0, 3756))) => ?_)
    refine s_sipush dX12_weeks_119 kS_2504 ?_
    refine s_iload_n (i := 3) dX12_weeks_122 rfl rfl ?_
    refine s_iadd dX12_weeks_123 ?_
    have hc := o_ck_c h
    have h := o_ck_k h
    refine s_ialdK g2 hc rfl dX12_weeks_124 ?_
    have hc := o_ck_c h
    have h := o_ck_k h
    refine s_iastK hX g1 hc rfl dX12_weeks_125 (o_gen h (fun μ1 h => ?_))
    refine s_iinc (v := (τ103 + 1)) dX12_weeks_126 rfl rfl (Nat.le_of_ble_eq_true rfl) rfl ?_
    refine s_goto (tgt := 103) dX12_weeks_129 rfl ?_
    refine s_mask [true, false, false, true] (L' := [some (.ref (o_ad X a0)), none, none, some (.int (τ103 + 1))]) rfl ?_
    exact kh (τ103 + 1) _ (o_ret h)
set_option maxRecDepth 20000 in
theorem dnX12_weeks_j77 {X : o_Cx} (hX : o_ok X) {d : Nat} {a0 : Nat} {μ0 : o_Mem} {q : Int32 → o_Mem → Prop} (h0 : o_is X a0 (.inl 12)) (h : o_Post (fX12_weeks_j77 (o_rf X) a0 μ0) q) : o_Ev X (d + 10) mX12_weeks 77 [some (.ref (o_ad X a0)), none, none, none] [] μ0 (o_QI q) := by
  unfold fX12_weeks_j77 at h
  refine s_aload_n (i := 0) dX12_weeks_77 rfl rfl ?_
  refine s_getI h0 flX12_157 rfl dX12_weeks_78 ?_
  refine s_if_ne (tgt := 132) dX12_weeks_81 rfl (fun c1 => ?_) (fun c1 => ?_)
  · have h := o_if_f c1 h
    refine s_mask [true, false, false, false] (L' := [some (.ref (o_ad X a0)), none, none, none]) rfl ?_
    exact dnX12_weeks_j132 hX h0 h
  · have h := o_if_t c1 h
    refine s_aload_n (i := 0) dX12_weeks_84 rfl rfl ?_
    refine s_getR hX h0 flX12_7 rfl dX12_weeks_85 (fun (g1 : o_is X (o_rf X a0 0) (.inr (0, 3756))) => ?_)
    refine s_bipush dX12_weeks_88 kB_12 ?_
    refine s_aload_n (i := 0) dX12_weeks_90 rfl rfl ?_
    refine s_getR hX h0 flX12_7 rfl dX12_weeks_91 (fun (g2 : o_is X (o_rf X a0 0) (.inr (0, 3756))) => ?_)
    refine s_sipush dX12_weeks_94 kS_2516 ?_
    refine s_ialdK g2 ⟨by decide, by decide⟩ kN_2516 dX12_weeks_97 ?_
    refine s_iastK hX g1 ⟨by decide, by decide⟩ kN_12 dX12_weeks_98 (o_gen h (fun μ1 h => ?_))
    refine s_sipush dX12_weeks_99 kS_259 ?_
    refine s_istore_n (i := 3) dX12_weeks_102 rfl (Nat.le_of_ble_eq_true rfl) rfl ?_
    refine s_mask [true, false, false, true] (L' := [some (.ref (o_ad X a0)), none, none, some (.int 259)]) rfl ?_
    refine o_lp_ev (fun τ103 => [some (.ref (o_ad X a0)), none, none, some (.int τ103)]) (fun τ103 μ _K h kv ke103 => dnX12_weeks_s103 hX h0 h kv (fun τ103 μ2 h => ?_)) o_fuel 259 μ1 (o_bdp h)
    · have h := o_if_t rfl (ke103 (132, τ103) μ2 (o_ne rfl) h)
      refine s_mask [true, false, false, false] (L' := [some (.ref (o_ad X a0)), none, none, none]) rfl ?_
      exact dnX12_weeks_j132 hX h0 h
set_option maxRecDepth 20000 in
theorem dnX12_weeks_j57 {X : o_Cx} (hX : o_ok X) {d : Nat} {a0 : Nat} {μ0 : o_Mem} {q : Int32 → o_Mem → Prop} (h0 : o_is X a0 (.inl 12)) (h : o_Post (fX12_weeks_j57 (o_rf X) a0 μ0) q) : o_Ev X (d + 10) mX12_weeks 57 [some (.ref (o_ad X a0)), none, none, none] [] μ0 (o_QI q) := by
  unfold fX12_weeks_j57 at h
  refine s_aload_n (i := 0) dX12_weeks_57 rfl rfl ?_
  refine s_getI h0 flX12_157 rfl dX12_weeks_58 ?_
  refine s_if_ne (tgt := 77) dX12_weeks_61 rfl (fun c1 => ?_) (fun c1 => ?_)
  · have h := o_if_f c1 h
    refine s_mask [true, false, false, false] (L' := [some (.ref (o_ad X a0)), none, none, none]) rfl ?_
    exact dnX12_weeks_j77 hX h0 h
  · have h := o_if_t c1 h
    refine s_aload_n (i := 0) dX12_weeks_64 rfl rfl ?_
    refine s_getI h0 flX12_257 rfl dX12_weeks_65 ?_
    refine s_if_le (tgt := 77) dX12_weeks_68 rfl (fun c1 => ?_) (fun c1 => ?_)
    · have h := o_if_t c1 h
      refine s_mask [true, false, false, false] (L' := [some (.ref (o_ad X a0)), none, none, none]) rfl ?_
      exact dnX12_weeks_j77 hX h0 h
    · have h := o_if_f c1 h
      refine s_aload_n (i := 0) dX12_weeks_71 rfl rfl ?_
      refine s_iconst dX12_weeks_72 kI_2 ?_
      refine s_callVz (C := mX12_fails) (As := [.int 2]) (rest := []) (L0 := [some (.ref (o_ad X a0)), some (.int 2)]) hX h0 clX12_169 dX12_weeks_73 rfl rfl (Nat.le_of_ble_eq_true rfl) (Nat.le_of_ble_eq_true rfl) (dnX12_fails hX h0 (o_bdp h)) (fun r1 μ1 zr1 h => ?_)
      refine s_pop dX12_weeks_76 rfl ?_
      refine s_mask [true, false, false, false] (L' := [some (.ref (o_ad X a0)), none, none, none]) rfl ?_
      exact dnX12_weeks_j77 hX h0 h
set_option maxRecDepth 20000 in
theorem dnX12_weeks {X : o_Cx} (hX : o_ok X) {d : Nat} {a0 : Nat} {x1 : Int32} {μ0 : o_Mem} {q : Int32 → o_Mem → Prop} (h0 : o_is X a0 (.inl 12)) (h : o_Post (fX12_weeks (o_rf X) a0 x1 μ0) q) : o_Ev X (d + 10) mX12_weeks 0 [some (.ref (o_ad X a0)), some (.int x1), none, none] [] μ0 (o_QI q) := by
  unfold fX12_weeks at h
  refine s_aload_n (i := 0) dX12_weeks_0 rfl rfl ?_
  refine s_iload_n (i := 1) dX12_weeks_1 rfl rfl ?_
  refine s_sipush dX12_weeks_2 kS_300 ?_
  refine s_callVz (C := mX12_begins) (As := [.int x1, .int 300]) (rest := []) (L0 := [some (.ref (o_ad X a0)), some (.int x1), some (.int 300), none]) hX h0 clX12_242 dX12_weeks_5 rfl rfl (Nat.le_of_ble_eq_true rfl) (Nat.le_of_ble_eq_true rfl) (dnX12_begins hX h0 (o_bdp h)) (fun r1 μ1 zr1 h => ?_)
  refine s_if_ne (tgt := 17) dX12_weeks_8 rfl (fun c1 => ?_) (fun c1 => ?_)
  · have h := o_if_f c1 h
    refine s_aload_n (i := 0) dX12_weeks_17 rfl rfl ?_
    refine s_getR hX h0 flX12_7 rfl dX12_weeks_18 (fun (g1 : o_is X (o_rf X a0 0) (.inr (0, 3756))) => ?_)
    refine s_sipush dX12_weeks_21 kS_2516 ?_
    refine s_iconst dX12_weeks_24 kI_0 ?_
    refine s_iastK hX g1 ⟨by decide, by decide⟩ kN_2516 dX12_weeks_25 (o_gen h (fun μ2 h => ?_))
    refine s_aload_n (i := 0) dX12_weeks_26 rfl rfl ?_
    refine s_iconst dX12_weeks_27 kI_0 ?_
    refine s_putI hX h0 fwX12_257 rfl dX12_weeks_28 (o_gen h (fun μ3 h => ?_))
    refine s_aload_n (i := 0) dX12_weeks_31 rfl rfl ?_
    refine s_iconst dX12_weeks_32 kI_0 ?_
    refine s_putI hX h0 fwX12_260 rfl dX12_weeks_33 (o_gen h (fun μ4 h => ?_))
    refine s_iconst dX12_weeks_36 kI_1 ?_
    refine s_istore_n (i := 2) dX12_weeks_37 rfl (Nat.le_of_ble_eq_true rfl) rfl ?_
    refine s_mask [true, false, true, false] (L' := [some (.ref (o_ad X a0)), none, some (.int 1), none]) rfl ?_
    refine o_lp_ev (fun τ38 => [some (.ref (o_ad X a0)), none, some (.int τ38), none]) (fun τ38 μ _K h kv ke38 => dnX12_weeks_s38 hX h0 h kv (fun τ38 μ5 h => ?_)) o_fuel 1 μ4 (o_bdp h)
    · have h := o_if_t rfl (ke38 (57, τ38) μ5 (o_ne rfl) h)
      refine s_mask [true, false, false, false] (L' := [some (.ref (o_ad X a0)), none, none, none]) rfl ?_
      exact dnX12_weeks_j57 hX h0 h
  · have h := o_if_t c1 h
    refine s_aload_n (i := 0) dX12_weeks_11 rfl rfl ?_
    refine s_iconst dX12_weeks_12 kI_1 ?_
    refine s_callVi (C := mX12_refuse) (As := [.int 1]) (rest := []) (L0 := [some (.ref (o_ad X a0)), some (.int 1)]) hX h0 clX12_87 dX12_weeks_13 rfl rfl (Nat.le_of_ble_eq_true rfl) (Nat.le_of_ble_eq_true rfl) (dnX12_refuse hX h0 (o_bdp h)) (fun r2 μ6 h => ?_)
    exact s_ireturn rfl dX12_weeks_16 ⟨_, rfl, o_ret h⟩
theorem dX12_strikeRow_0 : decode cX12_strikeRow 0 = .ok (.bipush 13, 2) := by decide +kernel
theorem dX12_strikeRow_2 : decode cX12_strikeRow 2 = .ok (.iconst 2, 1) := by decide +kernel
theorem dX12_strikeRow_3 : decode cX12_strikeRow 3 = .ok (.iload_n 0, 1) := by decide +kernel
theorem dX12_strikeRow_4 : decode cX12_strikeRow 4 = .ok (.imul, 1) := by decide +kernel
theorem dX12_strikeRow_5 : decode cX12_strikeRow 5 = .ok (.iadd, 1) := by decide +kernel
theorem dX12_strikeRow_6 : decode cX12_strikeRow 6 = .ok (.ireturn, 1) := by decide +kernel
noncomputable def fX12_strikeRow (rf : Nat → Nat → Nat) (x0 : Int32) (μ0 : o_Mem) : Option (Int32 × o_Mem) :=
  some ((13 + (2 * x0)), μ0)
set_option maxRecDepth 20000 in
theorem dnX12_strikeRow {X : o_Cx} (hX : o_ok X) {d : Nat} {x0 : Int32} {μ0 : o_Mem} {q : Int32 → o_Mem → Prop}  (h : o_Post (fX12_strikeRow (o_rf X) x0 μ0) q) : o_Ev X (d + 0) mX12_strikeRow 0 [some (.int x0)] [] μ0 (o_QI q) := by
  unfold fX12_strikeRow at h
  refine s_bipush dX12_strikeRow_0 kB_13 ?_
  refine s_iconst dX12_strikeRow_2 kI_2 ?_
  refine s_iload_n (i := 0) dX12_strikeRow_3 rfl rfl ?_
  refine s_imul dX12_strikeRow_4 ?_
  refine s_iadd dX12_strikeRow_5 ?_
  exact s_ireturn rfl dX12_strikeRow_6 ⟨_, rfl, o_ret h⟩
theorem dX12_lawRow_0 : decode cX12_lawRow 0 = .ok (.bipush 31, 2) := by decide +kernel
theorem dX12_lawRow_2 : decode cX12_lawRow 2 = .ok (.bipush 6, 2) := by decide +kernel
theorem dX12_lawRow_4 : decode cX12_lawRow 4 = .ok (.iload_n 0, 1) := by decide +kernel
theorem dX12_lawRow_5 : decode cX12_lawRow 5 = .ok (.imul, 1) := by decide +kernel
theorem dX12_lawRow_6 : decode cX12_lawRow 6 = .ok (.iadd, 1) := by decide +kernel
theorem dX12_lawRow_7 : decode cX12_lawRow 7 = .ok (.ireturn, 1) := by decide +kernel
noncomputable def fX12_lawRow (rf : Nat → Nat → Nat) (x0 : Int32) (μ0 : o_Mem) : Option (Int32 × o_Mem) :=
  some ((31 + (6 * x0)), μ0)
set_option maxRecDepth 20000 in
theorem dnX12_lawRow {X : o_Cx} (hX : o_ok X) {d : Nat} {x0 : Int32} {μ0 : o_Mem} {q : Int32 → o_Mem → Prop}  (h : o_Post (fX12_lawRow (o_rf X) x0 μ0) q) : o_Ev X (d + 0) mX12_lawRow 0 [some (.int x0)] [] μ0 (o_QI q) := by
  unfold fX12_lawRow at h
  refine s_bipush dX12_lawRow_0 kB_31 ?_
  refine s_bipush dX12_lawRow_2 kB_6 ?_
  refine s_iload_n (i := 0) dX12_lawRow_4 rfl rfl ?_
  refine s_imul dX12_lawRow_5 ?_
  refine s_iadd dX12_lawRow_6 ?_
  exact s_ireturn rfl dX12_lawRow_7 ⟨_, rfl, o_ret h⟩
theorem dX12_actRow_0 : decode cX12_actRow 0 = .ok (.bipush 79, 2) := by decide +kernel
theorem dX12_actRow_2 : decode cX12_actRow 2 = .ok (.iconst 2, 1) := by decide +kernel
theorem dX12_actRow_3 : decode cX12_actRow 3 = .ok (.bipush 6, 2) := by decide +kernel
theorem dX12_actRow_5 : decode cX12_actRow 5 = .ok (.iload_n 0, 1) := by decide +kernel
theorem dX12_actRow_6 : decode cX12_actRow 6 = .ok (.imul, 1) := by decide +kernel
theorem dX12_actRow_7 : decode cX12_actRow 7 = .ok (.iload_n 1, 1) := by decide +kernel
theorem dX12_actRow_8 : decode cX12_actRow 8 = .ok (.iadd, 1) := by decide +kernel
theorem dX12_actRow_9 : decode cX12_actRow 9 = .ok (.imul, 1) := by decide +kernel
theorem dX12_actRow_10 : decode cX12_actRow 10 = .ok (.iadd, 1) := by decide +kernel
theorem dX12_actRow_11 : decode cX12_actRow 11 = .ok (.ireturn, 1) := by decide +kernel
noncomputable def fX12_actRow (rf : Nat → Nat → Nat) (x0 : Int32) (x1 : Int32) (μ0 : o_Mem) : Option (Int32 × o_Mem) :=
  some ((79 + (2 * ((6 * x0) + x1))), μ0)
set_option maxRecDepth 20000 in
theorem dnX12_actRow {X : o_Cx} (hX : o_ok X) {d : Nat} {x0 : Int32} {x1 : Int32} {μ0 : o_Mem} {q : Int32 → o_Mem → Prop}  (h : o_Post (fX12_actRow (o_rf X) x0 x1 μ0) q) : o_Ev X (d + 0) mX12_actRow 0 [some (.int x0), some (.int x1)] [] μ0 (o_QI q) := by
  unfold fX12_actRow at h
  refine s_bipush dX12_actRow_0 kB_79 ?_
  refine s_iconst dX12_actRow_2 kI_2 ?_
  refine s_bipush dX12_actRow_3 kB_6 ?_
  refine s_iload_n (i := 0) dX12_actRow_5 rfl rfl ?_
  refine s_imul dX12_actRow_6 ?_
  refine s_iload_n (i := 1) dX12_actRow_7 rfl rfl ?_
  refine s_iadd dX12_actRow_8 ?_
  refine s_imul dX12_actRow_9 ?_
  refine s_iadd dX12_actRow_10 ?_
  exact s_ireturn rfl dX12_actRow_11 ⟨_, rfl, o_ret h⟩
theorem dX12_letterRow_0 : decode cX12_letterRow 0 = .ok (.sipush 151, 3) := by decide +kernel
theorem dX12_letterRow_3 : decode cX12_letterRow 3 = .ok (.iconst 4, 1) := by decide +kernel
theorem dX12_letterRow_4 : decode cX12_letterRow 4 = .ok (.iload_n 0, 1) := by decide +kernel
theorem dX12_letterRow_5 : decode cX12_letterRow 5 = .ok (.imul, 1) := by decide +kernel
theorem dX12_letterRow_6 : decode cX12_letterRow 6 = .ok (.iadd, 1) := by decide +kernel
theorem dX12_letterRow_7 : decode cX12_letterRow 7 = .ok (.ireturn, 1) := by decide +kernel
noncomputable def fX12_letterRow (rf : Nat → Nat → Nat) (x0 : Int32) (μ0 : o_Mem) : Option (Int32 × o_Mem) :=
  some ((151 + (4 * x0)), μ0)
set_option maxRecDepth 20000 in
theorem dnX12_letterRow {X : o_Cx} (hX : o_ok X) {d : Nat} {x0 : Int32} {μ0 : o_Mem} {q : Int32 → o_Mem → Prop}  (h : o_Post (fX12_letterRow (o_rf X) x0 μ0) q) : o_Ev X (d + 0) mX12_letterRow 0 [some (.int x0)] [] μ0 (o_QI q) := by
  unfold fX12_letterRow at h
  refine s_sipush dX12_letterRow_0 kS_151 ?_
  refine s_iconst dX12_letterRow_3 kI_4 ?_
  refine s_iload_n (i := 0) dX12_letterRow_4 rfl rfl ?_
  refine s_imul dX12_letterRow_5 ?_
  refine s_iadd dX12_letterRow_6 ?_
  exact s_ireturn rfl dX12_letterRow_7 ⟨_, rfl, o_ret h⟩
theorem dX12_coverRow_0 : decode cX12_coverRow 0 = .ok (.sipush 199, 3) := by decide +kernel
theorem dX12_coverRow_3 : decode cX12_coverRow 3 = .ok (.iconst 5, 1) := by decide +kernel
theorem dX12_coverRow_4 : decode cX12_coverRow 4 = .ok (.iload_n 0, 1) := by decide +kernel
theorem dX12_coverRow_5 : decode cX12_coverRow 5 = .ok (.imul, 1) := by decide +kernel
theorem dX12_coverRow_6 : decode cX12_coverRow 6 = .ok (.iadd, 1) := by decide +kernel
theorem dX12_coverRow_7 : decode cX12_coverRow 7 = .ok (.ireturn, 1) := by decide +kernel
noncomputable def fX12_coverRow (rf : Nat → Nat → Nat) (x0 : Int32) (μ0 : o_Mem) : Option (Int32 × o_Mem) :=
  some ((199 + (5 * x0)), μ0)
set_option maxRecDepth 20000 in
theorem dnX12_coverRow {X : o_Cx} (hX : o_ok X) {d : Nat} {x0 : Int32} {μ0 : o_Mem} {q : Int32 → o_Mem → Prop}  (h : o_Post (fX12_coverRow (o_rf X) x0 μ0) q) : o_Ev X (d + 0) mX12_coverRow 0 [some (.int x0)] [] μ0 (o_QI q) := by
  unfold fX12_coverRow at h
  refine s_sipush dX12_coverRow_0 kS_199 ?_
  refine s_iconst dX12_coverRow_3 kI_5 ?_
  refine s_iload_n (i := 0) dX12_coverRow_4 rfl rfl ?_
  refine s_imul dX12_coverRow_5 ?_
  refine s_iadd dX12_coverRow_6 ?_
  exact s_ireturn rfl dX12_coverRow_7 ⟨_, rfl, o_ret h⟩
theorem dX12_isStrike_0 : decode cX12_isStrike 0 = .ok (.lload_n 1, 1) := by decide +kernel
theorem dX12_isStrike_1 : decode cX12_isStrike 1 = .ok (.lconst 0, 1) := by decide +kernel
theorem dX12_isStrike_2 : decode cX12_isStrike 2 = .ok (.lcmp, 1) := by decide +kernel
theorem dX12_isStrike_3 : decode cX12_isStrike 3 = .ok (.ifCond .lt 19, 3) := by decide +kernel
theorem dX12_isStrike_6 : decode cX12_isStrike 6 = .ok (.lload_n 1, 1) := by decide +kernel
theorem dX12_isStrike_7 : decode cX12_isStrike 7 = .ok (.aload_n 0, 1) := by decide +kernel
theorem dX12_isStrike_8 : decode cX12_isStrike 8 = .ok (.getfield 7, 3) := by decide +kernel
theorem dX12_isStrike_11 : decode cX12_isStrike 11 = .ok (.iconst 0, 1) := by decide +kernel
theorem dX12_isStrike_12 : decode cX12_isStrike 12 = .ok (.iaload, 1) := by decide +kernel
theorem dX12_isStrike_13 : decode cX12_isStrike 13 = .ok (.i2l, 1) := by decide +kernel
theorem dX12_isStrike_14 : decode cX12_isStrike 14 = .ok (.lcmp, 1) := by decide +kernel
theorem dX12_isStrike_15 : decode cX12_isStrike 15 = .ok (.ifCond .ge 7, 3) := by decide +kernel
theorem dX12_isStrike_18 : decode cX12_isStrike 18 = .ok (.iconst 1, 1) := by decide +kernel
theorem dX12_isStrike_19 : decode cX12_isStrike 19 = .ok (.goto 4, 3) := by decide +kernel
theorem dX12_isStrike_22 : decode cX12_isStrike 22 = .ok (.iconst 0, 1) := by decide +kernel
theorem dX12_isStrike_23 : decode cX12_isStrike 23 = .ok (.ireturn, 1) := by decide +kernel
noncomputable def fX12_isStrike (rf : Nat → Nat → Nat) (a0 : Nat) (x1 : Int64) (μ0 : o_Mem) : Option (Int32 × o_Mem) :=
  if x1 < (0 : Int64) then (
    some (0, μ0))
  else (
    if (μ0.1 (rf a0 0) 0).toInt64 ≤ x1 then (
      some (0, μ0))
    else (
      some (1, μ0)))
set_option maxRecDepth 20000 in
theorem dnX12_isStrike {X : o_Cx} (hX : o_ok X) {d : Nat} {a0 : Nat} {x1 : Int64} {μ0 : o_Mem} {q : Int32 → o_Mem → Prop} (h0 : o_is X a0 (.inl 12)) (h : o_Post (fX12_isStrike (o_rf X) a0 x1 μ0) q) : o_Ev X (d + 0) mX12_isStrike 0 [some (.ref (o_ad X a0)), some (.long x1), none] [] μ0 (o_QZ q) := by
  unfold fX12_isStrike at h
  refine s_lload_n (i := 1) dX12_isStrike_0 rfl rfl ?_
  refine s_lconst (v := 0) dX12_isStrike_1 rfl ?_
  refine s_lif_lt (tgt := 22) dX12_isStrike_2 dX12_isStrike_3 rfl (fun c1 => ?_) (fun c1 => ?_)
  · have h := o_if_t c1 h
    refine s_iconst dX12_isStrike_22 kI_0 ?_
    exact s_zreturn rfl (Or.inl rfl) dX12_isStrike_23 ⟨_, rfl, (Or.inl rfl), o_ret h⟩
  · have h := o_if_f c1 h
    refine s_lload_n (i := 1) dX12_isStrike_6 rfl rfl ?_
    refine s_aload_n (i := 0) dX12_isStrike_7 rfl rfl ?_
    refine s_getR hX h0 flX12_7 rfl dX12_isStrike_8 (fun (g1 : o_is X (o_rf X a0 0) (.inr (0, 3756))) => ?_)
    refine s_iconst dX12_isStrike_11 kI_0 ?_
    refine s_ialdK g1 ⟨by decide, by decide⟩ kN_0 dX12_isStrike_12 ?_
    refine s_i2l dX12_isStrike_13 ?_
    refine s_lif_ge (tgt := 22) dX12_isStrike_14 dX12_isStrike_15 rfl (fun c1 => ?_) (fun c1 => ?_)
    · have h := o_if_t c1 h
      refine s_iconst dX12_isStrike_22 kI_0 ?_
      exact s_zreturn rfl (Or.inl rfl) dX12_isStrike_23 ⟨_, rfl, (Or.inl rfl), o_ret h⟩
    · have h := o_if_f c1 h
      refine s_iconst dX12_isStrike_18 kI_1 ?_
      refine s_goto (tgt := 23) dX12_isStrike_19 rfl ?_
      exact s_zreturn rfl (Or.inr rfl) dX12_isStrike_23 ⟨_, rfl, (Or.inr rfl), o_ret h⟩
theorem dX12_isHand_0 : decode cX12_isHand 0 = .ok (.iload_n 1, 1) := by decide +kernel
theorem dX12_isHand_1 : decode cX12_isHand 1 = .ok (.ifCond .lt 17, 3) := by decide +kernel
theorem dX12_isHand_4 : decode cX12_isHand 4 = .ok (.iload_n 1, 1) := by decide +kernel
theorem dX12_isHand_5 : decode cX12_isHand 5 = .ok (.aload_n 0, 1) := by decide +kernel
theorem dX12_isHand_6 : decode cX12_isHand 6 = .ok (.getfield 7, 3) := by decide +kernel
theorem dX12_isHand_9 : decode cX12_isHand 9 = .ok (.iconst 1, 1) := by decide +kernel
theorem dX12_isHand_10 : decode cX12_isHand 10 = .ok (.iaload, 1) := by decide +kernel
theorem dX12_isHand_11 : decode cX12_isHand 11 = .ok (.if_icmp .ge 7, 3) := by decide +kernel
theorem dX12_isHand_14 : decode cX12_isHand 14 = .ok (.iconst 1, 1) := by decide +kernel
theorem dX12_isHand_15 : decode cX12_isHand 15 = .ok (.goto 4, 3) := by decide +kernel
theorem dX12_isHand_18 : decode cX12_isHand 18 = .ok (.iconst 0, 1) := by decide +kernel
theorem dX12_isHand_19 : decode cX12_isHand 19 = .ok (.ireturn, 1) := by decide +kernel
noncomputable def fX12_isHand (rf : Nat → Nat → Nat) (a0 : Nat) (x1 : Int32) (μ0 : o_Mem) : Option (Int32 × o_Mem) :=
  if x1 < 0 then (
    some (0, μ0))
  else (
    if (μ0.1 (rf a0 0) 1) ≤ x1 then (
      some (0, μ0))
    else (
      some (1, μ0)))
set_option maxRecDepth 20000 in
theorem dnX12_isHand {X : o_Cx} (hX : o_ok X) {d : Nat} {a0 : Nat} {x1 : Int32} {μ0 : o_Mem} {q : Int32 → o_Mem → Prop} (h0 : o_is X a0 (.inl 12)) (h : o_Post (fX12_isHand (o_rf X) a0 x1 μ0) q) : o_Ev X (d + 0) mX12_isHand 0 [some (.ref (o_ad X a0)), some (.int x1)] [] μ0 (o_QZ q) := by
  unfold fX12_isHand at h
  refine s_iload_n (i := 1) dX12_isHand_0 rfl rfl ?_
  refine s_if_lt (tgt := 18) dX12_isHand_1 rfl (fun c1 => ?_) (fun c1 => ?_)
  · have h := o_if_t c1 h
    refine s_iconst dX12_isHand_18 kI_0 ?_
    exact s_zreturn rfl (Or.inl rfl) dX12_isHand_19 ⟨_, rfl, (Or.inl rfl), o_ret h⟩
  · have h := o_if_f c1 h
    refine s_iload_n (i := 1) dX12_isHand_4 rfl rfl ?_
    refine s_aload_n (i := 0) dX12_isHand_5 rfl rfl ?_
    refine s_getR hX h0 flX12_7 rfl dX12_isHand_6 (fun (g1 : o_is X (o_rf X a0 0) (.inr (0, 3756))) => ?_)
    refine s_iconst dX12_isHand_9 kI_1 ?_
    refine s_ialdK g1 ⟨by decide, by decide⟩ kN_1 dX12_isHand_10 ?_
    refine s_icmp_ge (tgt := 18) dX12_isHand_11 rfl (fun c1 => ?_) (fun c1 => ?_)
    · have h := o_if_t c1 h
      refine s_iconst dX12_isHand_18 kI_0 ?_
      exact s_zreturn rfl (Or.inl rfl) dX12_isHand_19 ⟨_, rfl, (Or.inl rfl), o_ret h⟩
    · have h := o_if_f c1 h
      refine s_iconst dX12_isHand_14 kI_1 ?_
      refine s_goto (tgt := 19) dX12_isHand_15 rfl ?_
      exact s_zreturn rfl (Or.inr rfl) dX12_isHand_19 ⟨_, rfl, (Or.inr rfl), o_ret h⟩
theorem dX12_isPerson_0 : decode cX12_isPerson 0 = .ok (.iload_n 1, 1) := by decide +kernel
theorem dX12_isPerson_1 : decode cX12_isPerson 1 = .ok (.ifCond .lt 17, 3) := by decide +kernel
theorem dX12_isPerson_4 : decode cX12_isPerson 4 = .ok (.iload_n 1, 1) := by decide +kernel
theorem dX12_isPerson_5 : decode cX12_isPerson 5 = .ok (.aload_n 0, 1) := by decide +kernel
theorem dX12_isPerson_6 : decode cX12_isPerson 6 = .ok (.getfield 7, 3) := by decide +kernel
theorem dX12_isPerson_9 : decode cX12_isPerson 9 = .ok (.iconst 2, 1) := by decide +kernel
theorem dX12_isPerson_10 : decode cX12_isPerson 10 = .ok (.iaload, 1) := by decide +kernel
theorem dX12_isPerson_11 : decode cX12_isPerson 11 = .ok (.if_icmp .ge 7, 3) := by decide +kernel
theorem dX12_isPerson_14 : decode cX12_isPerson 14 = .ok (.iconst 1, 1) := by decide +kernel
theorem dX12_isPerson_15 : decode cX12_isPerson 15 = .ok (.goto 4, 3) := by decide +kernel
theorem dX12_isPerson_18 : decode cX12_isPerson 18 = .ok (.iconst 0, 1) := by decide +kernel
theorem dX12_isPerson_19 : decode cX12_isPerson 19 = .ok (.ireturn, 1) := by decide +kernel
noncomputable def fX12_isPerson (rf : Nat → Nat → Nat) (a0 : Nat) (x1 : Int32) (μ0 : o_Mem) : Option (Int32 × o_Mem) :=
  if x1 < 0 then (
    some (0, μ0))
  else (
    if (μ0.1 (rf a0 0) 2) ≤ x1 then (
      some (0, μ0))
    else (
      some (1, μ0)))
set_option maxRecDepth 20000 in
theorem dnX12_isPerson {X : o_Cx} (hX : o_ok X) {d : Nat} {a0 : Nat} {x1 : Int32} {μ0 : o_Mem} {q : Int32 → o_Mem → Prop} (h0 : o_is X a0 (.inl 12)) (h : o_Post (fX12_isPerson (o_rf X) a0 x1 μ0) q) : o_Ev X (d + 0) mX12_isPerson 0 [some (.ref (o_ad X a0)), some (.int x1)] [] μ0 (o_QZ q) := by
  unfold fX12_isPerson at h
  refine s_iload_n (i := 1) dX12_isPerson_0 rfl rfl ?_
  refine s_if_lt (tgt := 18) dX12_isPerson_1 rfl (fun c1 => ?_) (fun c1 => ?_)
  · have h := o_if_t c1 h
    refine s_iconst dX12_isPerson_18 kI_0 ?_
    exact s_zreturn rfl (Or.inl rfl) dX12_isPerson_19 ⟨_, rfl, (Or.inl rfl), o_ret h⟩
  · have h := o_if_f c1 h
    refine s_iload_n (i := 1) dX12_isPerson_4 rfl rfl ?_
    refine s_aload_n (i := 0) dX12_isPerson_5 rfl rfl ?_
    refine s_getR hX h0 flX12_7 rfl dX12_isPerson_6 (fun (g1 : o_is X (o_rf X a0 0) (.inr (0, 3756))) => ?_)
    refine s_iconst dX12_isPerson_9 kI_2 ?_
    refine s_ialdK g1 ⟨by decide, by decide⟩ kN_2 dX12_isPerson_10 ?_
    refine s_icmp_ge (tgt := 18) dX12_isPerson_11 rfl (fun c1 => ?_) (fun c1 => ?_)
    · have h := o_if_t c1 h
      refine s_iconst dX12_isPerson_18 kI_0 ?_
      exact s_zreturn rfl (Or.inl rfl) dX12_isPerson_19 ⟨_, rfl, (Or.inl rfl), o_ret h⟩
    · have h := o_if_f c1 h
      refine s_iconst dX12_isPerson_14 kI_1 ?_
      refine s_goto (tgt := 19) dX12_isPerson_15 rfl ?_
      exact s_zreturn rfl (Or.inr rfl) dX12_isPerson_19 ⟨_, rfl, (Or.inr rfl), o_ret h⟩
theorem dX12_areTwo_0 : decode cX12_areTwo 0 = .ok (.aload_n 0, 1) := by decide +kernel
theorem dX12_areTwo_1 : decode cX12_areTwo 1 = .ok (.iload_n 1, 1) := by decide +kernel
theorem dX12_areTwo_2 : decode cX12_areTwo 2 = .ok (.invokevirtual 269, 3) := by decide +kernel
theorem dX12_areTwo_5 : decode cX12_areTwo 5 = .ok (.ifCond .eq 20, 3) := by decide +kernel
theorem dX12_areTwo_8 : decode cX12_areTwo 8 = .ok (.aload_n 0, 1) := by decide +kernel
theorem dX12_areTwo_9 : decode cX12_areTwo 9 = .ok (.iload_n 2, 1) := by decide +kernel
theorem dX12_areTwo_10 : decode cX12_areTwo 10 = .ok (.invokevirtual 269, 3) := by decide +kernel
theorem dX12_areTwo_13 : decode cX12_areTwo 13 = .ok (.ifCond .eq 12, 3) := by decide +kernel
theorem dX12_areTwo_16 : decode cX12_areTwo 16 = .ok (.iload_n 1, 1) := by decide +kernel
theorem dX12_areTwo_17 : decode cX12_areTwo 17 = .ok (.iload_n 2, 1) := by decide +kernel
theorem dX12_areTwo_18 : decode cX12_areTwo 18 = .ok (.if_icmp .eq 7, 3) := by decide +kernel
theorem dX12_areTwo_21 : decode cX12_areTwo 21 = .ok (.iconst 1, 1) := by decide +kernel
theorem dX12_areTwo_22 : decode cX12_areTwo 22 = .ok (.goto 4, 3) := by decide +kernel
theorem dX12_areTwo_25 : decode cX12_areTwo 25 = .ok (.iconst 0, 1) := by decide +kernel
theorem dX12_areTwo_26 : decode cX12_areTwo 26 = .ok (.ireturn, 1) := by decide +kernel
noncomputable def fX12_areTwo (rf : Nat → Nat → Nat) (a0 : Nat) (x1 : Int32) (x2 : Int32) (μ0 : o_Mem) : Option (Int32 × o_Mem) :=
  o_bd (fX12_isPerson rf a0 x1 μ0) fun r1 μ1 =>
  if r1 = 0 then (
    some (0, μ1))
  else (
    o_bd (fX12_isPerson rf a0 x2 μ1) fun r2 μ2 =>
    if r2 = 0 then (
      some (0, μ2))
    else (
      if x1 = x2 then (
        some (0, μ2))
      else (
        some (1, μ2))))
set_option maxRecDepth 20000 in
theorem dnX12_areTwo {X : o_Cx} (hX : o_ok X) {d : Nat} {a0 : Nat} {x1 : Int32} {x2 : Int32} {μ0 : o_Mem} {q : Int32 → o_Mem → Prop} (h0 : o_is X a0 (.inl 12)) (h : o_Post (fX12_areTwo (o_rf X) a0 x1 x2 μ0) q) : o_Ev X (d + 1) mX12_areTwo 0 [some (.ref (o_ad X a0)), some (.int x1), some (.int x2)] [] μ0 (o_QZ q) := by
  unfold fX12_areTwo at h
  refine s_aload_n (i := 0) dX12_areTwo_0 rfl rfl ?_
  refine s_iload_n (i := 1) dX12_areTwo_1 rfl rfl ?_
  refine s_callVz (C := mX12_isPerson) (As := [.int x1]) (rest := []) (L0 := [some (.ref (o_ad X a0)), some (.int x1)]) hX h0 clX12_269 dX12_areTwo_2 rfl rfl (Nat.le_of_ble_eq_true rfl) (Nat.le_of_ble_eq_true rfl) (dnX12_isPerson hX h0 (o_bdp h)) (fun r1 μ1 zr1 h => ?_)
  refine s_if_eq (tgt := 25) dX12_areTwo_5 rfl (fun c1 => ?_) (fun c1 => ?_)
  · have h := o_if_t c1 h
    refine s_iconst dX12_areTwo_25 kI_0 ?_
    exact s_zreturn rfl (Or.inl rfl) dX12_areTwo_26 ⟨_, rfl, (Or.inl rfl), o_ret h⟩
  · have h := o_if_f c1 h
    refine s_aload_n (i := 0) dX12_areTwo_8 rfl rfl ?_
    refine s_iload_n (i := 2) dX12_areTwo_9 rfl rfl ?_
    refine s_callVz (C := mX12_isPerson) (As := [.int x2]) (rest := []) (L0 := [some (.ref (o_ad X a0)), some (.int x2)]) hX h0 clX12_269 dX12_areTwo_10 rfl rfl (Nat.le_of_ble_eq_true rfl) (Nat.le_of_ble_eq_true rfl) (dnX12_isPerson hX h0 (o_bdp h)) (fun r2 μ2 zr2 h => ?_)
    refine s_if_eq (tgt := 25) dX12_areTwo_13 rfl (fun c1 => ?_) (fun c1 => ?_)
    · have h := o_if_t c1 h
      refine s_iconst dX12_areTwo_25 kI_0 ?_
      exact s_zreturn rfl (Or.inl rfl) dX12_areTwo_26 ⟨_, rfl, (Or.inl rfl), o_ret h⟩
    · have h := o_if_f c1 h
      refine s_iload_n (i := 1) dX12_areTwo_16 rfl rfl ?_
      refine s_iload_n (i := 2) dX12_areTwo_17 rfl rfl ?_
      refine s_icmp_eq (tgt := 25) dX12_areTwo_18 rfl (fun c1 => ?_) (fun c1 => ?_)
      · have h := o_if_t c1 h
        refine s_iconst dX12_areTwo_25 kI_0 ?_
        exact s_zreturn rfl (Or.inl rfl) dX12_areTwo_26 ⟨_, rfl, (Or.inl rfl), o_ret h⟩
      · have h := o_if_f c1 h
        refine s_iconst dX12_areTwo_21 kI_1 ?_
        refine s_goto (tgt := 26) dX12_areTwo_22 rfl ?_
        exact s_zreturn rfl (Or.inr rfl) dX12_areTwo_26 ⟨_, rfl, (Or.inr rfl), o_ret h⟩
theorem dX12_isLaw_0 : decode cX12_isLaw 0 = .ok (.iload_n 1, 1) := by decide +kernel
theorem dX12_isLaw_1 : decode cX12_isLaw 1 = .ok (.ifCond .lt 17, 3) := by decide +kernel
theorem dX12_isLaw_4 : decode cX12_isLaw 4 = .ok (.iload_n 1, 1) := by decide +kernel
theorem dX12_isLaw_5 : decode cX12_isLaw 5 = .ok (.aload_n 0, 1) := by decide +kernel
theorem dX12_isLaw_6 : decode cX12_isLaw 6 = .ok (.getfield 7, 3) := by decide +kernel
theorem dX12_isLaw_9 : decode cX12_isLaw 9 = .ok (.iconst 3, 1) := by decide +kernel
theorem dX12_isLaw_10 : decode cX12_isLaw 10 = .ok (.iaload, 1) := by decide +kernel
theorem dX12_isLaw_11 : decode cX12_isLaw 11 = .ok (.if_icmp .ge 7, 3) := by decide +kernel
theorem dX12_isLaw_14 : decode cX12_isLaw 14 = .ok (.iconst 1, 1) := by decide +kernel
theorem dX12_isLaw_15 : decode cX12_isLaw 15 = .ok (.goto 4, 3) := by decide +kernel
theorem dX12_isLaw_18 : decode cX12_isLaw 18 = .ok (.iconst 0, 1) := by decide +kernel
theorem dX12_isLaw_19 : decode cX12_isLaw 19 = .ok (.ireturn, 1) := by decide +kernel
noncomputable def fX12_isLaw (rf : Nat → Nat → Nat) (a0 : Nat) (x1 : Int32) (μ0 : o_Mem) : Option (Int32 × o_Mem) :=
  if x1 < 0 then (
    some (0, μ0))
  else (
    if (μ0.1 (rf a0 0) 3) ≤ x1 then (
      some (0, μ0))
    else (
      some (1, μ0)))
set_option maxRecDepth 20000 in
theorem dnX12_isLaw {X : o_Cx} (hX : o_ok X) {d : Nat} {a0 : Nat} {x1 : Int32} {μ0 : o_Mem} {q : Int32 → o_Mem → Prop} (h0 : o_is X a0 (.inl 12)) (h : o_Post (fX12_isLaw (o_rf X) a0 x1 μ0) q) : o_Ev X (d + 0) mX12_isLaw 0 [some (.ref (o_ad X a0)), some (.int x1)] [] μ0 (o_QZ q) := by
  unfold fX12_isLaw at h
  refine s_iload_n (i := 1) dX12_isLaw_0 rfl rfl ?_
  refine s_if_lt (tgt := 18) dX12_isLaw_1 rfl (fun c1 => ?_) (fun c1 => ?_)
  · have h := o_if_t c1 h
    refine s_iconst dX12_isLaw_18 kI_0 ?_
    exact s_zreturn rfl (Or.inl rfl) dX12_isLaw_19 ⟨_, rfl, (Or.inl rfl), o_ret h⟩
  · have h := o_if_f c1 h
    refine s_iload_n (i := 1) dX12_isLaw_4 rfl rfl ?_
    refine s_aload_n (i := 0) dX12_isLaw_5 rfl rfl ?_
    refine s_getR hX h0 flX12_7 rfl dX12_isLaw_6 (fun (g1 : o_is X (o_rf X a0 0) (.inr (0, 3756))) => ?_)
    refine s_iconst dX12_isLaw_9 kI_3 ?_
    refine s_ialdK g1 ⟨by decide, by decide⟩ kN_3 dX12_isLaw_10 ?_
    refine s_icmp_ge (tgt := 18) dX12_isLaw_11 rfl (fun c1 => ?_) (fun c1 => ?_)
    · have h := o_if_t c1 h
      refine s_iconst dX12_isLaw_18 kI_0 ?_
      exact s_zreturn rfl (Or.inl rfl) dX12_isLaw_19 ⟨_, rfl, (Or.inl rfl), o_ret h⟩
    · have h := o_if_f c1 h
      refine s_iconst dX12_isLaw_14 kI_1 ?_
      refine s_goto (tgt := 19) dX12_isLaw_15 rfl ?_
      exact s_zreturn rfl (Or.inr rfl) dX12_isLaw_19 ⟨_, rfl, (Or.inr rfl), o_ret h⟩
theorem dX12_isLetter_0 : decode cX12_isLetter 0 = .ok (.iload_n 1, 1) := by decide +kernel
theorem dX12_isLetter_1 : decode cX12_isLetter 1 = .ok (.ifCond .lt 17, 3) := by decide +kernel
theorem dX12_isLetter_4 : decode cX12_isLetter 4 = .ok (.iload_n 1, 1) := by decide +kernel
theorem dX12_isLetter_5 : decode cX12_isLetter 5 = .ok (.aload_n 0, 1) := by decide +kernel
theorem dX12_isLetter_6 : decode cX12_isLetter 6 = .ok (.getfield 7, 3) := by decide +kernel
theorem dX12_isLetter_9 : decode cX12_isLetter 9 = .ok (.iconst 4, 1) := by decide +kernel
theorem dX12_isLetter_10 : decode cX12_isLetter 10 = .ok (.iaload, 1) := by decide +kernel
theorem dX12_isLetter_11 : decode cX12_isLetter 11 = .ok (.if_icmp .ge 7, 3) := by decide +kernel
theorem dX12_isLetter_14 : decode cX12_isLetter 14 = .ok (.iconst 1, 1) := by decide +kernel
theorem dX12_isLetter_15 : decode cX12_isLetter 15 = .ok (.goto 4, 3) := by decide +kernel
theorem dX12_isLetter_18 : decode cX12_isLetter 18 = .ok (.iconst 0, 1) := by decide +kernel
theorem dX12_isLetter_19 : decode cX12_isLetter 19 = .ok (.ireturn, 1) := by decide +kernel
noncomputable def fX12_isLetter (rf : Nat → Nat → Nat) (a0 : Nat) (x1 : Int32) (μ0 : o_Mem) : Option (Int32 × o_Mem) :=
  if x1 < 0 then (
    some (0, μ0))
  else (
    if (μ0.1 (rf a0 0) 4) ≤ x1 then (
      some (0, μ0))
    else (
      some (1, μ0)))
set_option maxRecDepth 20000 in
theorem dnX12_isLetter {X : o_Cx} (hX : o_ok X) {d : Nat} {a0 : Nat} {x1 : Int32} {μ0 : o_Mem} {q : Int32 → o_Mem → Prop} (h0 : o_is X a0 (.inl 12)) (h : o_Post (fX12_isLetter (o_rf X) a0 x1 μ0) q) : o_Ev X (d + 0) mX12_isLetter 0 [some (.ref (o_ad X a0)), some (.int x1)] [] μ0 (o_QZ q) := by
  unfold fX12_isLetter at h
  refine s_iload_n (i := 1) dX12_isLetter_0 rfl rfl ?_
  refine s_if_lt (tgt := 18) dX12_isLetter_1 rfl (fun c1 => ?_) (fun c1 => ?_)
  · have h := o_if_t c1 h
    refine s_iconst dX12_isLetter_18 kI_0 ?_
    exact s_zreturn rfl (Or.inl rfl) dX12_isLetter_19 ⟨_, rfl, (Or.inl rfl), o_ret h⟩
  · have h := o_if_f c1 h
    refine s_iload_n (i := 1) dX12_isLetter_4 rfl rfl ?_
    refine s_aload_n (i := 0) dX12_isLetter_5 rfl rfl ?_
    refine s_getR hX h0 flX12_7 rfl dX12_isLetter_6 (fun (g1 : o_is X (o_rf X a0 0) (.inr (0, 3756))) => ?_)
    refine s_iconst dX12_isLetter_9 kI_4 ?_
    refine s_ialdK g1 ⟨by decide, by decide⟩ kN_4 dX12_isLetter_10 ?_
    refine s_icmp_ge (tgt := 18) dX12_isLetter_11 rfl (fun c1 => ?_) (fun c1 => ?_)
    · have h := o_if_t c1 h
      refine s_iconst dX12_isLetter_18 kI_0 ?_
      exact s_zreturn rfl (Or.inl rfl) dX12_isLetter_19 ⟨_, rfl, (Or.inl rfl), o_ret h⟩
    · have h := o_if_f c1 h
      refine s_iconst dX12_isLetter_14 kI_1 ?_
      refine s_goto (tgt := 19) dX12_isLetter_15 rfl ?_
      exact s_zreturn rfl (Or.inr rfl) dX12_isLetter_19 ⟨_, rfl, (Or.inr rfl), o_ret h⟩
theorem dX12_isWeight_0 : decode cX12_isWeight 0 = .ok (.lload_n 0, 1) := by decide +kernel
theorem dX12_isWeight_1 : decode cX12_isWeight 1 = .ok (.lconst 1, 1) := by decide +kernel
theorem dX12_isWeight_2 : decode cX12_isWeight 2 = .ok (.lcmp, 1) := by decide +kernel
theorem dX12_isWeight_3 : decode cX12_isWeight 3 = .ok (.ifCond .lt 15, 3) := by decide +kernel
theorem dX12_isWeight_6 : decode cX12_isWeight 6 = .ok (.lload_n 0, 1) := by decide +kernel
theorem dX12_isWeight_7 : decode cX12_isWeight 7 = .ok (.ldc2_w 272, 3) := by decide +kernel
theorem dX12_isWeight_10 : decode cX12_isWeight 10 = .ok (.lcmp, 1) := by decide +kernel
theorem dX12_isWeight_11 : decode cX12_isWeight 11 = .ok (.ifCond .gt 7, 3) := by decide +kernel
theorem dX12_isWeight_14 : decode cX12_isWeight 14 = .ok (.iconst 1, 1) := by decide +kernel
theorem dX12_isWeight_15 : decode cX12_isWeight 15 = .ok (.goto 4, 3) := by decide +kernel
theorem dX12_isWeight_18 : decode cX12_isWeight 18 = .ok (.iconst 0, 1) := by decide +kernel
theorem dX12_isWeight_19 : decode cX12_isWeight 19 = .ok (.ireturn, 1) := by decide +kernel
noncomputable def fX12_isWeight (rf : Nat → Nat → Nat) (x0 : Int64) (μ0 : o_Mem) : Option (Int32 × o_Mem) :=
  if x0 < (1 : Int64) then (
    some (0, μ0))
  else (
    if (99 : Int64) < x0 then (
      some (0, μ0))
    else (
      some (1, μ0)))
set_option maxRecDepth 20000 in
theorem dnX12_isWeight {X : o_Cx} (hX : o_ok X) {d : Nat} {x0 : Int64} {μ0 : o_Mem} {q : Int32 → o_Mem → Prop}  (h : o_Post (fX12_isWeight (o_rf X) x0 μ0) q) : o_Ev X (d + 0) mX12_isWeight 0 [some (.long x0), none] [] μ0 (o_QZ q) := by
  unfold fX12_isWeight at h
  refine s_lload_n (i := 0) dX12_isWeight_0 rfl rfl ?_
  refine s_lconst (v := 1) dX12_isWeight_1 rfl ?_
  refine s_lif_lt (tgt := 18) dX12_isWeight_2 dX12_isWeight_3 rfl (fun c1 => ?_) (fun c1 => ?_)
  · have h := o_if_t c1 h
    refine s_iconst dX12_isWeight_18 kI_0 ?_
    exact s_zreturn rfl (Or.inl rfl) dX12_isWeight_19 ⟨_, rfl, (Or.inl rfl), o_ret h⟩
  · have h := o_if_f c1 h
    refine s_lload_n (i := 0) dX12_isWeight_6 rfl rfl ?_
    refine s_ldc2 (v := 99) w_8_42 dX12_isWeight_7 ?_
    refine s_lif_gt (tgt := 18) dX12_isWeight_10 dX12_isWeight_11 rfl (fun c1 => ?_) (fun c1 => ?_)
    · have h := o_if_t c1 h
      refine s_iconst dX12_isWeight_18 kI_0 ?_
      exact s_zreturn rfl (Or.inl rfl) dX12_isWeight_19 ⟨_, rfl, (Or.inl rfl), o_ret h⟩
    · have h := o_if_f c1 h
      refine s_iconst dX12_isWeight_14 kI_1 ?_
      refine s_goto (tgt := 19) dX12_isWeight_15 rfl ?_
      exact s_zreturn rfl (Or.inr rfl) dX12_isWeight_19 ⟨_, rfl, (Or.inr rfl), o_ret h⟩
theorem dX12_isMail_0 : decode cX12_isMail 0 = .ok (.aload_n 0, 1) := by decide +kernel
theorem dX12_isMail_1 : decode cX12_isMail 1 = .ok (.iload_n 1, 1) := by decide +kernel
theorem dX12_isMail_2 : decode cX12_isMail 2 = .ok (.iload_n 2, 1) := by decide +kernel
theorem dX12_isMail_3 : decode cX12_isMail 3 = .ok (.invokevirtual 274, 3) := by decide +kernel
theorem dX12_isMail_6 : decode cX12_isMail 6 = .ok (.ifCond .eq 24, 3) := by decide +kernel
theorem dX12_isMail_9 : decode cX12_isMail 9 = .ok (.iload_n 3, 1) := by decide +kernel
theorem dX12_isMail_10 : decode cX12_isMail 10 = .ok (.i2l, 1) := by decide +kernel
theorem dX12_isMail_11 : decode cX12_isMail 11 = .ok (.invokestatic 277, 3) := by decide +kernel
theorem dX12_isMail_14 : decode cX12_isMail 14 = .ok (.ifCond .eq 16, 3) := by decide +kernel
theorem dX12_isMail_17 : decode cX12_isMail 17 = .ok (.aload_n 0, 1) := by decide +kernel
theorem dX12_isMail_18 : decode cX12_isMail 18 = .ok (.iload 4, 2) := by decide +kernel
theorem dX12_isMail_20 : decode cX12_isMail 20 = .ok (.invokevirtual 281, 3) := by decide +kernel
theorem dX12_isMail_23 : decode cX12_isMail 23 = .ok (.ifCond .eq 7, 3) := by decide +kernel
theorem dX12_isMail_26 : decode cX12_isMail 26 = .ok (.iconst 1, 1) := by decide +kernel
theorem dX12_isMail_27 : decode cX12_isMail 27 = .ok (.goto 4, 3) := by decide +kernel
theorem dX12_isMail_30 : decode cX12_isMail 30 = .ok (.iconst 0, 1) := by decide +kernel
theorem dX12_isMail_31 : decode cX12_isMail 31 = .ok (.ireturn, 1) := by decide +kernel
noncomputable def fX12_isMail (rf : Nat → Nat → Nat) (a0 : Nat) (x1 : Int32) (x2 : Int32) (x3 : Int32) (x4 : Int32) (μ0 : o_Mem) : Option (Int32 × o_Mem) :=
  o_bd (fX12_areTwo rf a0 x1 x2 μ0) fun r1 μ1 =>
  if r1 = 0 then (
    some (0, μ1))
  else (
    o_bd (fX12_isWeight rf x3.toInt64 μ1) fun r2 μ2 =>
    if r2 = 0 then (
      some (0, μ2))
    else (
      o_bd (fX12_isHand rf a0 x4 μ2) fun r3 μ3 =>
      if r3 = 0 then (
        some (0, μ3))
      else (
        some (1, μ3))))
set_option maxRecDepth 20000 in
theorem dnX12_isMail {X : o_Cx} (hX : o_ok X) {d : Nat} {a0 : Nat} {x1 : Int32} {x2 : Int32} {x3 : Int32} {x4 : Int32} {μ0 : o_Mem} {q : Int32 → o_Mem → Prop} (h0 : o_is X a0 (.inl 12)) (h : o_Post (fX12_isMail (o_rf X) a0 x1 x2 x3 x4 μ0) q) : o_Ev X (d + 2) mX12_isMail 0 [some (.ref (o_ad X a0)), some (.int x1), some (.int x2), some (.int x3), some (.int x4)] [] μ0 (o_QZ q) := by
  unfold fX12_isMail at h
  refine s_aload_n (i := 0) dX12_isMail_0 rfl rfl ?_
  refine s_iload_n (i := 1) dX12_isMail_1 rfl rfl ?_
  refine s_iload_n (i := 2) dX12_isMail_2 rfl rfl ?_
  refine s_callVz (C := mX12_areTwo) (As := [.int x1, .int x2]) (rest := []) (L0 := [some (.ref (o_ad X a0)), some (.int x1), some (.int x2)]) hX h0 clX12_274 dX12_isMail_3 rfl rfl (Nat.le_of_ble_eq_true rfl) (Nat.le_of_ble_eq_true rfl) (dnX12_areTwo hX h0 (o_bdp h)) (fun r1 μ1 zr1 h => ?_)
  refine s_if_eq (tgt := 30) dX12_isMail_6 rfl (fun c1 => ?_) (fun c1 => ?_)
  · have h := o_if_t c1 h
    refine s_iconst dX12_isMail_30 kI_0 ?_
    exact s_zreturn rfl (Or.inl rfl) dX12_isMail_31 ⟨_, rfl, (Or.inl rfl), o_ret h⟩
  · have h := o_if_f c1 h
    refine s_iload_n (i := 3) dX12_isMail_9 rfl rfl ?_
    refine s_i2l dX12_isMail_10 ?_
    refine s_callSz (C := mX12_isWeight) (As := [.long x3.toInt64]) (rest := []) (L0 := [some (.long x3.toInt64), none]) clX12_277 dX12_isMail_11 rfl rfl (Nat.le_of_ble_eq_true rfl) (Nat.le_of_ble_eq_true rfl) (dnX12_isWeight hX  (o_bdp h)) (fun r2 μ2 zr2 h => ?_)
    refine s_if_eq (tgt := 30) dX12_isMail_14 rfl (fun c1 => ?_) (fun c1 => ?_)
    · have h := o_if_t c1 h
      refine s_iconst dX12_isMail_30 kI_0 ?_
      exact s_zreturn rfl (Or.inl rfl) dX12_isMail_31 ⟨_, rfl, (Or.inl rfl), o_ret h⟩
    · have h := o_if_f c1 h
      refine s_aload_n (i := 0) dX12_isMail_17 rfl rfl ?_
      refine s_iload dX12_isMail_18 rfl ?_
      refine s_callVz (C := mX12_isHand) (As := [.int x4]) (rest := []) (L0 := [some (.ref (o_ad X a0)), some (.int x4)]) hX h0 clX12_281 dX12_isMail_20 rfl rfl (Nat.le_of_ble_eq_true rfl) (Nat.le_of_ble_eq_true rfl) (dnX12_isHand hX h0 (o_bdp h)) (fun r3 μ3 zr3 h => ?_)
      refine s_if_eq (tgt := 30) dX12_isMail_23 rfl (fun c1 => ?_) (fun c1 => ?_)
      · have h := o_if_t c1 h
        refine s_iconst dX12_isMail_30 kI_0 ?_
        exact s_zreturn rfl (Or.inl rfl) dX12_isMail_31 ⟨_, rfl, (Or.inl rfl), o_ret h⟩
      · have h := o_if_f c1 h
        refine s_iconst dX12_isMail_26 kI_1 ?_
        refine s_goto (tgt := 31) dX12_isMail_27 rfl ?_
        exact s_zreturn rfl (Or.inr rfl) dX12_isMail_31 ⟨_, rfl, (Or.inr rfl), o_ret h⟩
theorem dX12_bits_0 : decode cX12_bits 0 = .ok (.iconst 0, 1) := by decide +kernel
theorem dX12_bits_1 : decode cX12_bits 1 = .ok (.istore_n 1, 1) := by decide +kernel
theorem dX12_bits_2 : decode cX12_bits 2 = .ok (.iload_n 0, 1) := by decide +kernel
theorem dX12_bits_3 : decode cX12_bits 3 = .ok (.istore_n 2, 1) := by decide +kernel
theorem dX12_bits_4 : decode cX12_bits 4 = .ok (.iload_n 2, 1) := by decide +kernel
theorem dX12_bits_5 : decode cX12_bits 5 = .ok (.ifCond .eq 15, 3) := by decide +kernel
theorem dX12_bits_8 : decode cX12_bits 8 = .ok (.iinc 1 1, 3) := by decide +kernel
theorem dX12_bits_11 : decode cX12_bits 11 = .ok (.iload_n 2, 1) := by decide +kernel
theorem dX12_bits_12 : decode cX12_bits 12 = .ok (.iload_n 2, 1) := by decide +kernel
theorem dX12_bits_13 : decode cX12_bits 13 = .ok (.iconst 1, 1) := by decide +kernel
theorem dX12_bits_14 : decode cX12_bits 14 = .ok (.isub, 1) := by decide +kernel
theorem dX12_bits_15 : decode cX12_bits 15 = .ok (.iand, 1) := by decide +kernel
theorem dX12_bits_16 : decode cX12_bits 16 = .ok (.istore_n 2, 1) := by decide +kernel
theorem dX12_bits_17 : decode cX12_bits 17 = .ok (.goto (-13), 3) := by decide +kernel
theorem dX12_bits_20 : decode cX12_bits 20 = .ok (.iload_n 1, 1) := by decide +kernel
theorem dX12_bits_21 : decode cX12_bits 21 = .ok (.ireturn, 1) := by decide +kernel
noncomputable def fX12_bits_s4 (rf : Nat → Nat → Nat)  (τ4 : Int32 × Int32) (μ0 : o_Mem) : Option ((Nat × (Int32 × Int32)) × o_Mem) :=
  if τ4.2 = 0 then (
    some ((20, (τ4.1, 0)), μ0))
  else (
    some ((4, ((τ4.1 + 1), (τ4.2 &&& (τ4.2 - 1)))), μ0))
noncomputable def fX12_bits (rf : Nat → Nat → Nat) (x0 : Int32) (μ0 : o_Mem) : Option (Int32 × o_Mem) :=
  o_bd (o_lp 4 (fX12_bits_s4 rf ) o_fuel (0, x0) μ0) fun ex1 μ1 =>
  if ex1.1 = 20 then (
    some (ex1.2.1, μ1))
  else
    none
set_option maxRecDepth 20000 in
theorem dnX12_bits_s4 {X : o_Cx} (hX : o_ok X) {d : Nat}  {τ4 : Int32 × Int32} {μ0 : o_Mem} {K : (Nat × (Int32 × Int32)) → o_Mem → Prop} {Q : Option Value → o_Mem → Prop}  (h : o_Post (fX12_bits_s4 (o_rf X)  τ4 μ0) K) (kh : ∀ (τ4 : Int32 × Int32) (μ : o_Mem), K (4, τ4) μ → o_Ev X (d + 0) mX12_bits 4 [none, some (.int τ4.1), some (.int τ4.2)] [] μ Q) (k20 : ∀ (τ4 : Int32 × Int32) (μ : o_Mem), K (20, τ4) μ → o_Ev X (d + 0) mX12_bits 20 [none, some (.int τ4.1), none] [] μ Q) : o_Ev X (d + 0) mX12_bits 4 [none, some (.int τ4.1), some (.int τ4.2)] [] μ0 Q := by
  unfold fX12_bits_s4 at h
  refine s_iload_n (i := 2) dX12_bits_4 rfl rfl ?_
  refine s_if_eq (tgt := 20) dX12_bits_5 rfl (fun c1 => ?_) (fun c1 => ?_)
  · have h := o_if_t c1 h
    refine s_mask [false, true, false] (L' := [none, some (.int τ4.1), none]) rfl ?_
    exact k20 (τ4.1, 0) _ (o_ret h)
  · have h := o_if_f c1 h
    refine s_iinc (v := (τ4.1 + 1)) dX12_bits_8 rfl rfl (Nat.le_of_ble_eq_true rfl) rfl ?_
    refine s_iload_n (i := 2) dX12_bits_11 rfl rfl ?_
    refine s_iload_n (i := 2) dX12_bits_12 rfl rfl ?_
    refine s_iconst dX12_bits_13 kI_1 ?_
    refine s_isub dX12_bits_14 ?_
    refine s_iand dX12_bits_15 ?_
    refine s_istore_n (i := 2) dX12_bits_16 rfl (Nat.le_of_ble_eq_true rfl) rfl ?_
    refine s_goto (tgt := 4) dX12_bits_17 rfl ?_
    refine s_mask [false, true, true] (L' := [none, some (.int (τ4.1 + 1)), some (.int (τ4.2 &&& (τ4.2 - 1)))]) rfl ?_
    exact kh ((τ4.1 + 1), (τ4.2 &&& (τ4.2 - 1))) _ (o_ret h)
set_option maxRecDepth 20000 in
theorem dnX12_bits {X : o_Cx} (hX : o_ok X) {d : Nat} {x0 : Int32} {μ0 : o_Mem} {q : Int32 → o_Mem → Prop}  (h : o_Post (fX12_bits (o_rf X) x0 μ0) q) : o_Ev X (d + 0) mX12_bits 0 [some (.int x0), none, none] [] μ0 (o_QI q) := by
  unfold fX12_bits at h
  refine s_iconst dX12_bits_0 kI_0 ?_
  refine s_istore_n (i := 1) dX12_bits_1 rfl (Nat.le_of_ble_eq_true rfl) rfl ?_
  refine s_iload_n (i := 0) dX12_bits_2 rfl rfl ?_
  refine s_istore_n (i := 2) dX12_bits_3 rfl (Nat.le_of_ble_eq_true rfl) rfl ?_
  refine s_mask [false, true, true] (L' := [none, some (.int 0), some (.int x0)]) rfl ?_
  refine o_lp_ev (fun τ4 => [none, some (.int τ4.1), some (.int τ4.2)]) (fun τ4 μ _K h kv ke4 => dnX12_bits_s4 hX  h kv (fun τ4 μ1 h => ?_)) o_fuel (0, x0) μ0 (o_bdp h)
  · have h := o_if_t rfl (ke4 (20, τ4) μ1 (o_ne rfl) h)
    refine s_iload_n (i := 1) dX12_bits_20 rfl rfl ?_
    exact s_ireturn rfl dX12_bits_21 ⟨_, rfl, o_ret h⟩
theorem dX12_handOf_0 : decode cX12_handOf 0 = .ok (.aload_n 0, 1) := by decide +kernel
theorem dX12_handOf_1 : decode cX12_handOf 1 = .ok (.getfield 7, 3) := by decide +kernel
theorem dX12_handOf_4 : decode cX12_handOf 4 = .ok (.bipush 25, 2) := by decide +kernel
theorem dX12_handOf_6 : decode cX12_handOf 6 = .ok (.iload_n 1, 1) := by decide +kernel
theorem dX12_handOf_7 : decode cX12_handOf 7 = .ok (.iadd, 1) := by decide +kernel
theorem dX12_handOf_8 : decode cX12_handOf 8 = .ok (.iaload, 1) := by decide +kernel
theorem dX12_handOf_9 : decode cX12_handOf 9 = .ok (.ireturn, 1) := by decide +kernel
noncomputable def fX12_handOf (rf : Nat → Nat → Nat) (a0 : Nat) (x1 : Int32) (μ0 : o_Mem) : Option (Int32 × o_Mem) :=
  o_ck (0 ≤ ((25 + x1)).toInt ∧ ((25 + x1)).toInt < 3756) <|
  some ((μ0.1 (rf a0 0) ((25 + x1)).toNatClampNeg), μ0)
set_option maxRecDepth 20000 in
theorem dnX12_handOf {X : o_Cx} (hX : o_ok X) {d : Nat} {a0 : Nat} {x1 : Int32} {μ0 : o_Mem} {q : Int32 → o_Mem → Prop} (h0 : o_is X a0 (.inl 12)) (h : o_Post (fX12_handOf (o_rf X) a0 x1 μ0) q) : o_Ev X (d + 0) mX12_handOf 0 [some (.ref (o_ad X a0)), some (.int x1)] [] μ0 (o_QI q) := by
  unfold fX12_handOf at h
  refine s_aload_n (i := 0) dX12_handOf_0 rfl rfl ?_
  refine s_getR hX h0 flX12_7 rfl dX12_handOf_1 (fun (g1 : o_is X (o_rf X a0 0) (.inr (0, 3756))) => ?_)
  refine s_bipush dX12_handOf_4 kB_25 ?_
  refine s_iload_n (i := 1) dX12_handOf_6 rfl rfl ?_
  refine s_iadd dX12_handOf_7 ?_
  have hc := o_ck_c h
  have h := o_ck_k h
  refine s_ialdK g1 hc rfl dX12_handOf_8 ?_
  exact s_ireturn rfl dX12_handOf_9 ⟨_, rfl, o_ret h⟩
theorem dX12_told_0 : decode cX12_told 0 = .ok (.iload_n 1, 1) := by decide +kernel
theorem dX12_told_1 : decode cX12_told 1 = .ok (.ifCond .lt 9, 3) := by decide +kernel
theorem dX12_told_4 : decode cX12_told 4 = .ok (.iload_n 1, 1) := by decide +kernel
theorem dX12_told_5 : decode cX12_told 5 = .ok (.bipush 11, 2) := by decide +kernel
theorem dX12_told_7 : decode cX12_told 7 = .ok (.if_icmp .le 11, 3) := by decide +kernel
theorem dX12_told_10 : decode cX12_told 10 = .ok (.aload_n 0, 1) := by decide +kernel
theorem dX12_told_11 : decode cX12_told 11 = .ok (.iconst 1, 1) := by decide +kernel
theorem dX12_told_12 : decode cX12_told 12 = .ok (.invokevirtual 87, 3) := by decide +kernel
theorem dX12_told_15 : decode cX12_told 15 = .ok (.goto 13, 3) := by decide +kernel
theorem dX12_told_18 : decode cX12_told 18 = .ok (.aload_n 0, 1) := by decide +kernel
theorem dX12_told_19 : decode cX12_told 19 = .ok (.aload_n 0, 1) := by decide +kernel
theorem dX12_told_20 : decode cX12_told 20 = .ok (.getfield 7, 3) := by decide +kernel
theorem dX12_told_23 : decode cX12_told 23 = .ok (.iload_n 1, 1) := by decide +kernel
theorem dX12_told_24 : decode cX12_told 24 = .ok (.iaload, 1) := by decide +kernel
theorem dX12_told_25 : decode cX12_told 25 = .ok (.invokevirtual 91, 3) := by decide +kernel
theorem dX12_told_28 : decode cX12_told 28 = .ok (.ireturn, 1) := by decide +kernel
noncomputable def fX12_told_j10 (rf : Nat → Nat → Nat) (a0 : Nat) (μ0 : o_Mem) : Option (Int32 × o_Mem) :=
  o_bd (fX12_refuse rf a0 1 μ0) fun r1 μ1 =>
  some (r1, μ1)
noncomputable def fX12_told (rf : Nat → Nat → Nat) (a0 : Nat) (x1 : Int32) (μ0 : o_Mem) : Option (Int32 × o_Mem) :=
  if x1 < 0 then (
    fX12_told_j10 rf a0 μ0)
  else (
    if x1 ≤ 11 then (
      o_ck (0 ≤ (x1).toInt ∧ (x1).toInt < 3756) <|
      o_bd (fX12_gives rf a0 (μ0.1 (rf a0 0) x1.toNatClampNeg) μ0) fun r1 μ1 =>
      some (r1, μ1))
    else (
      fX12_told_j10 rf a0 μ0))
set_option maxRecDepth 20000 in
theorem dnX12_told_j10 {X : o_Cx} (hX : o_ok X) {d : Nat} {a0 : Nat} {μ0 : o_Mem} {q : Int32 → o_Mem → Prop} (h0 : o_is X a0 (.inl 12)) (h : o_Post (fX12_told_j10 (o_rf X) a0 μ0) q) : o_Ev X (d + 1) mX12_told 10 [some (.ref (o_ad X a0)), none] [] μ0 (o_QI q) := by
  unfold fX12_told_j10 at h
  refine s_aload_n (i := 0) dX12_told_10 rfl rfl ?_
  refine s_iconst dX12_told_11 kI_1 ?_
  refine s_callVi (C := mX12_refuse) (As := [.int 1]) (rest := []) (L0 := [some (.ref (o_ad X a0)), some (.int 1)]) hX h0 clX12_87 dX12_told_12 rfl rfl (Nat.le_of_ble_eq_true rfl) (Nat.le_of_ble_eq_true rfl) (dnX12_refuse hX h0 (o_bdp h)) (fun r1 μ1 h => ?_)
  refine s_goto (tgt := 28) dX12_told_15 rfl ?_
  exact s_ireturn rfl dX12_told_28 ⟨_, rfl, o_ret h⟩
set_option maxRecDepth 20000 in
theorem dnX12_told {X : o_Cx} (hX : o_ok X) {d : Nat} {a0 : Nat} {x1 : Int32} {μ0 : o_Mem} {q : Int32 → o_Mem → Prop} (h0 : o_is X a0 (.inl 12)) (h : o_Post (fX12_told (o_rf X) a0 x1 μ0) q) : o_Ev X (d + 1) mX12_told 0 [some (.ref (o_ad X a0)), some (.int x1)] [] μ0 (o_QI q) := by
  unfold fX12_told at h
  refine s_iload_n (i := 1) dX12_told_0 rfl rfl ?_
  refine s_if_lt (tgt := 10) dX12_told_1 rfl (fun c1 => ?_) (fun c1 => ?_)
  · have h := o_if_t c1 h
    refine s_mask [true, false] (L' := [some (.ref (o_ad X a0)), none]) rfl ?_
    exact dnX12_told_j10 hX h0 h
  · have h := o_if_f c1 h
    refine s_iload_n (i := 1) dX12_told_4 rfl rfl ?_
    refine s_bipush dX12_told_5 kB_11 ?_
    refine s_icmp_le (tgt := 18) dX12_told_7 rfl (fun c1 => ?_) (fun c1 => ?_)
    · have h := o_if_t c1 h
      refine s_aload_n (i := 0) dX12_told_18 rfl rfl ?_
      refine s_aload_n (i := 0) dX12_told_19 rfl rfl ?_
      refine s_getR hX h0 flX12_7 rfl dX12_told_20 (fun (g1 : o_is X (o_rf X a0 0) (.inr (0, 3756))) => ?_)
      refine s_iload_n (i := 1) dX12_told_23 rfl rfl ?_
      have hc := o_ck_c h
      have h := o_ck_k h
      refine s_ialdK g1 hc rfl dX12_told_24 ?_
      refine s_callVi (C := mX12_gives) (As := [.int (μ0.1 (o_rf X a0 0) x1.toNatClampNeg)]) (rest := []) (L0 := [some (.ref (o_ad X a0)), some (.int (μ0.1 (o_rf X a0 0) x1.toNatClampNeg))]) hX h0 clX12_91 dX12_told_25 rfl rfl (Nat.le_of_ble_eq_true rfl) (Nat.le_of_ble_eq_true rfl) (dnX12_gives hX h0 (o_bdp h)) (fun r1 μ1 h => ?_)
      exact s_ireturn rfl dX12_told_28 ⟨_, rfl, o_ret h⟩
    · have h := o_if_f c1 h
      refine s_mask [true, false] (L' := [some (.ref (o_ad X a0)), none]) rfl ?_
      exact dnX12_told_j10 hX h0 h
theorem dX12_worth_0 : decode cX12_worth 0 = .ok (.aload_n 0, 1) := by decide +kernel
theorem dX12_worth_1 : decode cX12_worth 1 = .ok (.iload_n 1, 1) := by decide +kernel
theorem dX12_worth_2 : decode cX12_worth 2 = .ok (.i2l, 1) := by decide +kernel
theorem dX12_worth_3 : decode cX12_worth 3 = .ok (.invokevirtual 284, 3) := by decide +kernel
theorem dX12_worth_6 : decode cX12_worth 6 = .ok (.ifCond .eq 19, 3) := by decide +kernel
theorem dX12_worth_9 : decode cX12_worth 9 = .ok (.aload_n 0, 1) := by decide +kernel
theorem dX12_worth_10 : decode cX12_worth 10 = .ok (.aload_n 0, 1) := by decide +kernel
theorem dX12_worth_11 : decode cX12_worth 11 = .ok (.getfield 7, 3) := by decide +kernel
theorem dX12_worth_14 : decode cX12_worth 14 = .ok (.iload_n 1, 1) := by decide +kernel
theorem dX12_worth_15 : decode cX12_worth 15 = .ok (.invokestatic 287, 3) := by decide +kernel
theorem dX12_worth_18 : decode cX12_worth 18 = .ok (.iaload, 1) := by decide +kernel
theorem dX12_worth_19 : decode cX12_worth 19 = .ok (.invokevirtual 91, 3) := by decide +kernel
theorem dX12_worth_22 : decode cX12_worth 22 = .ok (.goto 8, 3) := by decide +kernel
theorem dX12_worth_25 : decode cX12_worth 25 = .ok (.aload_n 0, 1) := by decide +kernel
theorem dX12_worth_26 : decode cX12_worth 26 = .ok (.iconst 1, 1) := by decide +kernel
theorem dX12_worth_27 : decode cX12_worth 27 = .ok (.invokevirtual 87, 3) := by decide +kernel
theorem dX12_worth_30 : decode cX12_worth 30 = .ok (.ireturn, 1) := by decide +kernel
noncomputable def fX12_worth (rf : Nat → Nat → Nat) (a0 : Nat) (x1 : Int32) (μ0 : o_Mem) : Option (Int32 × o_Mem) :=
  o_bd (fX12_isStrike rf a0 x1.toInt64 μ0) fun r1 μ1 =>
  if r1 = 0 then (
    o_bd (fX12_refuse rf a0 1 μ1) fun r2 μ2 =>
    some (r2, μ2))
  else (
    o_bd (fX12_strikeRow rf x1 μ1) fun r3 μ3 =>
    o_ck (0 ≤ (r3).toInt ∧ (r3).toInt < 3756) <|
    o_bd (fX12_gives rf a0 (μ3.1 (rf a0 0) r3.toNatClampNeg) μ3) fun r4 μ4 =>
    some (r4, μ4))
set_option maxRecDepth 20000 in
theorem dnX12_worth {X : o_Cx} (hX : o_ok X) {d : Nat} {a0 : Nat} {x1 : Int32} {μ0 : o_Mem} {q : Int32 → o_Mem → Prop} (h0 : o_is X a0 (.inl 12)) (h : o_Post (fX12_worth (o_rf X) a0 x1 μ0) q) : o_Ev X (d + 1) mX12_worth 0 [some (.ref (o_ad X a0)), some (.int x1)] [] μ0 (o_QI q) := by
  unfold fX12_worth at h
  refine s_aload_n (i := 0) dX12_worth_0 rfl rfl ?_
  refine s_iload_n (i := 1) dX12_worth_1 rfl rfl ?_
  refine s_i2l dX12_worth_2 ?_
  refine s_callVz (C := mX12_isStrike) (As := [.long x1.toInt64]) (rest := []) (L0 := [some (.ref (o_ad X a0)), some (.long x1.toInt64), none]) hX h0 clX12_284 dX12_worth_3 rfl rfl (Nat.le_of_ble_eq_true rfl) (Nat.le_of_ble_eq_true rfl) (dnX12_isStrike hX h0 (o_bdp h)) (fun r1 μ1 zr1 h => ?_)
  refine s_if_eq (tgt := 25) dX12_worth_6 rfl (fun c1 => ?_) (fun c1 => ?_)
  · have h := o_if_t c1 h
    refine s_aload_n (i := 0) dX12_worth_25 rfl rfl ?_
    refine s_iconst dX12_worth_26 kI_1 ?_
    refine s_callVi (C := mX12_refuse) (As := [.int 1]) (rest := []) (L0 := [some (.ref (o_ad X a0)), some (.int 1)]) hX h0 clX12_87 dX12_worth_27 rfl rfl (Nat.le_of_ble_eq_true rfl) (Nat.le_of_ble_eq_true rfl) (dnX12_refuse hX h0 (o_bdp h)) (fun r2 μ2 h => ?_)
    exact s_ireturn rfl dX12_worth_30 ⟨_, rfl, o_ret h⟩
  · have h := o_if_f c1 h
    refine s_aload_n (i := 0) dX12_worth_9 rfl rfl ?_
    refine s_aload_n (i := 0) dX12_worth_10 rfl rfl ?_
    refine s_getR hX h0 flX12_7 rfl dX12_worth_11 (fun (g1 : o_is X (o_rf X a0 0) (.inr (0, 3756))) => ?_)
    refine s_iload_n (i := 1) dX12_worth_14 rfl rfl ?_
    refine s_callSi (C := mX12_strikeRow) (As := [.int x1]) (rest := [.ref (o_ad X (o_rf X a0 0)), .ref (o_ad X a0)]) (L0 := [some (.int x1)]) clX12_287 dX12_worth_15 rfl rfl (Nat.le_of_ble_eq_true rfl) (Nat.le_of_ble_eq_true rfl) (dnX12_strikeRow hX  (o_bdp h)) (fun r3 μ3 h => ?_)
    have hc := o_ck_c h
    have h := o_ck_k h
    refine s_ialdK g1 hc rfl dX12_worth_18 ?_
    refine s_callVi (C := mX12_gives) (As := [.int (μ3.1 (o_rf X a0 0) r3.toNatClampNeg)]) (rest := []) (L0 := [some (.ref (o_ad X a0)), some (.int (μ3.1 (o_rf X a0 0) r3.toNatClampNeg))]) hX h0 clX12_91 dX12_worth_19 rfl rfl (Nat.le_of_ble_eq_true rfl) (Nat.le_of_ble_eq_true rfl) (dnX12_gives hX h0 (o_bdp h)) (fun r4 μ4 h => ?_)
    refine s_goto (tgt := 30) dX12_worth_22 rfl ?_
    exact s_ireturn rfl dX12_worth_30 ⟨_, rfl, o_ret h⟩
theorem dX12_hand_0 : decode cX12_hand 0 = .ok (.aload_n 0, 1) := by decide +kernel
theorem dX12_hand_1 : decode cX12_hand 1 = .ok (.iload_n 1, 1) := by decide +kernel
theorem dX12_hand_2 : decode cX12_hand 2 = .ok (.invokevirtual 269, 3) := by decide +kernel
theorem dX12_hand_5 : decode cX12_hand 5 = .ok (.ifCond .eq 15, 3) := by decide +kernel
theorem dX12_hand_8 : decode cX12_hand 8 = .ok (.aload_n 0, 1) := by decide +kernel
theorem dX12_hand_9 : decode cX12_hand 9 = .ok (.aload_n 0, 1) := by decide +kernel
theorem dX12_hand_10 : decode cX12_hand 10 = .ok (.iload_n 1, 1) := by decide +kernel
theorem dX12_hand_11 : decode cX12_hand 11 = .ok (.invokevirtual 290, 3) := by decide +kernel
theorem dX12_hand_14 : decode cX12_hand 14 = .ok (.invokevirtual 91, 3) := by decide +kernel
theorem dX12_hand_17 : decode cX12_hand 17 = .ok (.goto 8, 3) := by decide +kernel
theorem dX12_hand_20 : decode cX12_hand 20 = .ok (.aload_n 0, 1) := by decide +kernel
theorem dX12_hand_21 : decode cX12_hand 21 = .ok (.iconst 1, 1) := by decide +kernel
theorem dX12_hand_22 : decode cX12_hand 22 = .ok (.invokevirtual 87, 3) := by decide +kernel
theorem dX12_hand_25 : decode cX12_hand 25 = .ok (.ireturn, 1) := by decide +kernel
noncomputable def fX12_hand (rf : Nat → Nat → Nat) (a0 : Nat) (x1 : Int32) (μ0 : o_Mem) : Option (Int32 × o_Mem) :=
  o_bd (fX12_isPerson rf a0 x1 μ0) fun r1 μ1 =>
  if r1 = 0 then (
    o_bd (fX12_refuse rf a0 1 μ1) fun r2 μ2 =>
    some (r2, μ2))
  else (
    o_bd (fX12_handOf rf a0 x1 μ1) fun r3 μ3 =>
    o_bd (fX12_gives rf a0 r3 μ3) fun r4 μ4 =>
    some (r4, μ4))
set_option maxRecDepth 20000 in
theorem dnX12_hand {X : o_Cx} (hX : o_ok X) {d : Nat} {a0 : Nat} {x1 : Int32} {μ0 : o_Mem} {q : Int32 → o_Mem → Prop} (h0 : o_is X a0 (.inl 12)) (h : o_Post (fX12_hand (o_rf X) a0 x1 μ0) q) : o_Ev X (d + 1) mX12_hand 0 [some (.ref (o_ad X a0)), some (.int x1)] [] μ0 (o_QI q) := by
  unfold fX12_hand at h
  refine s_aload_n (i := 0) dX12_hand_0 rfl rfl ?_
  refine s_iload_n (i := 1) dX12_hand_1 rfl rfl ?_
  refine s_callVz (C := mX12_isPerson) (As := [.int x1]) (rest := []) (L0 := [some (.ref (o_ad X a0)), some (.int x1)]) hX h0 clX12_269 dX12_hand_2 rfl rfl (Nat.le_of_ble_eq_true rfl) (Nat.le_of_ble_eq_true rfl) (dnX12_isPerson hX h0 (o_bdp h)) (fun r1 μ1 zr1 h => ?_)
  refine s_if_eq (tgt := 20) dX12_hand_5 rfl (fun c1 => ?_) (fun c1 => ?_)
  · have h := o_if_t c1 h
    refine s_aload_n (i := 0) dX12_hand_20 rfl rfl ?_
    refine s_iconst dX12_hand_21 kI_1 ?_
    refine s_callVi (C := mX12_refuse) (As := [.int 1]) (rest := []) (L0 := [some (.ref (o_ad X a0)), some (.int 1)]) hX h0 clX12_87 dX12_hand_22 rfl rfl (Nat.le_of_ble_eq_true rfl) (Nat.le_of_ble_eq_true rfl) (dnX12_refuse hX h0 (o_bdp h)) (fun r2 μ2 h => ?_)
    exact s_ireturn rfl dX12_hand_25 ⟨_, rfl, o_ret h⟩
  · have h := o_if_f c1 h
    refine s_aload_n (i := 0) dX12_hand_8 rfl rfl ?_
    refine s_aload_n (i := 0) dX12_hand_9 rfl rfl ?_
    refine s_iload_n (i := 1) dX12_hand_10 rfl rfl ?_
    refine s_callVi (C := mX12_handOf) (As := [.int x1]) (rest := [.ref (o_ad X a0)]) (L0 := [some (.ref (o_ad X a0)), some (.int x1)]) hX h0 clX12_290 dX12_hand_11 rfl rfl (Nat.le_of_ble_eq_true rfl) (Nat.le_of_ble_eq_true rfl) (dnX12_handOf hX h0 (o_bdp h)) (fun r3 μ3 h => ?_)
    refine s_callVi (C := mX12_gives) (As := [.int r3]) (rest := []) (L0 := [some (.ref (o_ad X a0)), some (.int r3)]) hX h0 clX12_91 dX12_hand_14 rfl rfl (Nat.le_of_ble_eq_true rfl) (Nat.le_of_ble_eq_true rfl) (dnX12_gives hX h0 (o_bdp h)) (fun r4 μ4 h => ?_)
    refine s_goto (tgt := 25) dX12_hand_17 rfl ?_
    exact s_ireturn rfl dX12_hand_25 ⟨_, rfl, o_ret h⟩
theorem dX12_law_0 : decode cX12_law 0 = .ok (.aload_n 0, 1) := by decide +kernel
theorem dX12_law_1 : decode cX12_law 1 = .ok (.iload_n 1, 1) := by decide +kernel
theorem dX12_law_2 : decode cX12_law 2 = .ok (.invokevirtual 293, 3) := by decide +kernel
theorem dX12_law_5 : decode cX12_law 5 = .ok (.ifCond .eq 30, 3) := by decide +kernel
theorem dX12_law_8 : decode cX12_law 8 = .ok (.iload_n 2, 1) := by decide +kernel
theorem dX12_law_9 : decode cX12_law 9 = .ok (.ifCond .lt 26, 3) := by decide +kernel
theorem dX12_law_12 : decode cX12_law 12 = .ok (.iload_n 2, 1) := by decide +kernel
theorem dX12_law_13 : decode cX12_law 13 = .ok (.iconst 5, 1) := by decide +kernel
theorem dX12_law_14 : decode cX12_law 14 = .ok (.if_icmp .gt 21, 3) := by decide +kernel
theorem dX12_law_17 : decode cX12_law 17 = .ok (.aload_n 0, 1) := by decide +kernel
theorem dX12_law_18 : decode cX12_law 18 = .ok (.aload_n 0, 1) := by decide +kernel
theorem dX12_law_19 : decode cX12_law 19 = .ok (.getfield 7, 3) := by decide +kernel
theorem dX12_law_22 : decode cX12_law 22 = .ok (.iload_n 1, 1) := by decide +kernel
theorem dX12_law_23 : decode cX12_law 23 = .ok (.invokestatic 296, 3) := by decide +kernel
theorem dX12_law_26 : decode cX12_law 26 = .ok (.iload_n 2, 1) := by decide +kernel
theorem dX12_law_27 : decode cX12_law 27 = .ok (.iadd, 1) := by decide +kernel
theorem dX12_law_28 : decode cX12_law 28 = .ok (.iaload, 1) := by decide +kernel
theorem dX12_law_29 : decode cX12_law 29 = .ok (.invokevirtual 299, 3) := by decide +kernel
theorem dX12_law_32 : decode cX12_law 32 = .ok (.goto 8, 3) := by decide +kernel
theorem dX12_law_35 : decode cX12_law 35 = .ok (.aload_n 0, 1) := by decide +kernel
theorem dX12_law_36 : decode cX12_law 36 = .ok (.iconst 1, 1) := by decide +kernel
theorem dX12_law_37 : decode cX12_law 37 = .ok (.invokevirtual 87, 3) := by decide +kernel
theorem dX12_law_40 : decode cX12_law 40 = .ok (.ireturn, 1) := by decide +kernel
noncomputable def fX12_law_j35 (rf : Nat → Nat → Nat) (a0 : Nat) (μ0 : o_Mem) : Option (Int32 × o_Mem) :=
  o_bd (fX12_refuse rf a0 1 μ0) fun r1 μ1 =>
  some (r1, μ1)
noncomputable def fX12_law (rf : Nat → Nat → Nat) (a0 : Nat) (x1 : Int32) (x2 : Int32) (μ0 : o_Mem) : Option (Int32 × o_Mem) :=
  o_bd (fX12_isLaw rf a0 x1 μ0) fun r1 μ1 =>
  if r1 = 0 then (
    fX12_law_j35 rf a0 μ1)
  else (
    if x2 < 0 then (
      fX12_law_j35 rf a0 μ1)
    else (
      if 5 < x2 then (
        fX12_law_j35 rf a0 μ1)
      else (
        o_bd (fX12_lawRow rf x1 μ1) fun r2 μ2 =>
        o_ck (0 ≤ ((r2 + x2)).toInt ∧ ((r2 + x2)).toInt < 3756) <|
        o_bd (fX12_orNone rf a0 (μ2.1 (rf a0 0) ((r2 + x2)).toNatClampNeg) μ2) fun r3 μ3 =>
        some (r3, μ3))))
set_option maxRecDepth 20000 in
theorem dnX12_law_j35 {X : o_Cx} (hX : o_ok X) {d : Nat} {a0 : Nat} {μ0 : o_Mem} {q : Int32 → o_Mem → Prop} (h0 : o_is X a0 (.inl 12)) (h : o_Post (fX12_law_j35 (o_rf X) a0 μ0) q) : o_Ev X (d + 2) mX12_law 35 [some (.ref (o_ad X a0)), none, none] [] μ0 (o_QI q) := by
  unfold fX12_law_j35 at h
  refine s_aload_n (i := 0) dX12_law_35 rfl rfl ?_
  refine s_iconst dX12_law_36 kI_1 ?_
  refine s_callVi (C := mX12_refuse) (As := [.int 1]) (rest := []) (L0 := [some (.ref (o_ad X a0)), some (.int 1)]) hX h0 clX12_87 dX12_law_37 rfl rfl (Nat.le_of_ble_eq_true rfl) (Nat.le_of_ble_eq_true rfl) (dnX12_refuse hX h0 (o_bdp h)) (fun r1 μ1 h => ?_)
  exact s_ireturn rfl dX12_law_40 ⟨_, rfl, o_ret h⟩
set_option maxRecDepth 20000 in
theorem dnX12_law {X : o_Cx} (hX : o_ok X) {d : Nat} {a0 : Nat} {x1 : Int32} {x2 : Int32} {μ0 : o_Mem} {q : Int32 → o_Mem → Prop} (h0 : o_is X a0 (.inl 12)) (h : o_Post (fX12_law (o_rf X) a0 x1 x2 μ0) q) : o_Ev X (d + 2) mX12_law 0 [some (.ref (o_ad X a0)), some (.int x1), some (.int x2)] [] μ0 (o_QI q) := by
  unfold fX12_law at h
  refine s_aload_n (i := 0) dX12_law_0 rfl rfl ?_
  refine s_iload_n (i := 1) dX12_law_1 rfl rfl ?_
  refine s_callVz (C := mX12_isLaw) (As := [.int x1]) (rest := []) (L0 := [some (.ref (o_ad X a0)), some (.int x1)]) hX h0 clX12_293 dX12_law_2 rfl rfl (Nat.le_of_ble_eq_true rfl) (Nat.le_of_ble_eq_true rfl) (dnX12_isLaw hX h0 (o_bdp h)) (fun r1 μ1 zr1 h => ?_)
  refine s_if_eq (tgt := 35) dX12_law_5 rfl (fun c1 => ?_) (fun c1 => ?_)
  · have h := o_if_t c1 h
    refine s_mask [true, false, false] (L' := [some (.ref (o_ad X a0)), none, none]) rfl ?_
    exact dnX12_law_j35 hX h0 h
  · have h := o_if_f c1 h
    refine s_iload_n (i := 2) dX12_law_8 rfl rfl ?_
    refine s_if_lt (tgt := 35) dX12_law_9 rfl (fun c1 => ?_) (fun c1 => ?_)
    · have h := o_if_t c1 h
      refine s_mask [true, false, false] (L' := [some (.ref (o_ad X a0)), none, none]) rfl ?_
      exact dnX12_law_j35 hX h0 h
    · have h := o_if_f c1 h
      refine s_iload_n (i := 2) dX12_law_12 rfl rfl ?_
      refine s_iconst dX12_law_13 kI_5 ?_
      refine s_icmp_gt (tgt := 35) dX12_law_14 rfl (fun c1 => ?_) (fun c1 => ?_)
      · have h := o_if_t c1 h
        refine s_mask [true, false, false] (L' := [some (.ref (o_ad X a0)), none, none]) rfl ?_
        exact dnX12_law_j35 hX h0 h
      · have h := o_if_f c1 h
        refine s_aload_n (i := 0) dX12_law_17 rfl rfl ?_
        refine s_aload_n (i := 0) dX12_law_18 rfl rfl ?_
        refine s_getR hX h0 flX12_7 rfl dX12_law_19 (fun (g1 : o_is X (o_rf X a0 0) (.inr (0, 3756))) => ?_)
        refine s_iload_n (i := 1) dX12_law_22 rfl rfl ?_
        refine s_callSi (C := mX12_lawRow) (As := [.int x1]) (rest := [.ref (o_ad X (o_rf X a0 0)), .ref (o_ad X a0)]) (L0 := [some (.int x1)]) clX12_296 dX12_law_23 rfl rfl (Nat.le_of_ble_eq_true rfl) (Nat.le_of_ble_eq_true rfl) (dnX12_lawRow hX  (o_bdp h)) (fun r2 μ2 h => ?_)
        refine s_iload_n (i := 2) dX12_law_26 rfl rfl ?_
        refine s_iadd dX12_law_27 ?_
        have hc := o_ck_c h
        have h := o_ck_k h
        refine s_ialdK g1 hc rfl dX12_law_28 ?_
        refine s_callVi (C := mX12_orNone) (As := [.int (μ2.1 (o_rf X a0 0) ((r2 + x2)).toNatClampNeg)]) (rest := []) (L0 := [some (.ref (o_ad X a0)), some (.int (μ2.1 (o_rf X a0 0) ((r2 + x2)).toNatClampNeg))]) hX h0 clX12_299 dX12_law_29 rfl rfl (Nat.le_of_ble_eq_true rfl) (Nat.le_of_ble_eq_true rfl) (dnX12_orNone hX h0 (o_bdp h)) (fun r3 μ3 h => ?_)
        refine s_goto (tgt := 40) dX12_law_32 rfl ?_
        exact s_ireturn rfl dX12_law_40 ⟨_, rfl, o_ret h⟩
theorem dX12_acts_0 : decode cX12_acts 0 = .ok (.aload_n 0, 1) := by decide +kernel
theorem dX12_acts_1 : decode cX12_acts 1 = .ok (.iload_n 1, 1) := by decide +kernel
theorem dX12_acts_2 : decode cX12_acts 2 = .ok (.invokevirtual 269, 3) := by decide +kernel
theorem dX12_acts_5 : decode cX12_acts 5 = .ok (.ifCond .eq 21, 3) := by decide +kernel
theorem dX12_acts_8 : decode cX12_acts 8 = .ok (.aload_n 0, 1) := by decide +kernel
theorem dX12_acts_9 : decode cX12_acts 9 = .ok (.iload_n 2, 1) := by decide +kernel
theorem dX12_acts_10 : decode cX12_acts 10 = .ok (.i2l, 1) := by decide +kernel
theorem dX12_acts_11 : decode cX12_acts 11 = .ok (.invokevirtual 284, 3) := by decide +kernel
theorem dX12_acts_14 : decode cX12_acts 14 = .ok (.ifCond .eq 12, 3) := by decide +kernel
theorem dX12_acts_17 : decode cX12_acts 17 = .ok (.iload_n 3, 1) := by decide +kernel
theorem dX12_acts_18 : decode cX12_acts 18 = .ok (.ifCond .lt 8, 3) := by decide +kernel
theorem dX12_acts_21 : decode cX12_acts 21 = .ok (.iload_n 3, 1) := by decide +kernel
theorem dX12_acts_22 : decode cX12_acts 22 = .ok (.iconst 1, 1) := by decide +kernel
theorem dX12_acts_23 : decode cX12_acts 23 = .ok (.if_icmp .le 9, 3) := by decide +kernel
theorem dX12_acts_26 : decode cX12_acts 26 = .ok (.aload_n 0, 1) := by decide +kernel
theorem dX12_acts_27 : decode cX12_acts 27 = .ok (.iconst 1, 1) := by decide +kernel
theorem dX12_acts_28 : decode cX12_acts 28 = .ok (.invokevirtual 87, 3) := by decide +kernel
theorem dX12_acts_31 : decode cX12_acts 31 = .ok (.ireturn, 1) := by decide +kernel
theorem dX12_acts_32 : decode cX12_acts 32 = .ok (.iload_n 1, 1) := by decide +kernel
theorem dX12_acts_33 : decode cX12_acts 33 = .ok (.iload_n 2, 1) := by decide +kernel
theorem dX12_acts_34 : decode cX12_acts 34 = .ok (.invokestatic 302, 3) := by decide +kernel
theorem dX12_acts_37 : decode cX12_acts 37 = .ok (.istore 4, 2) := by decide +kernel
theorem dX12_acts_39 : decode cX12_acts 39 = .ok (.aload_n 0, 1) := by decide +kernel
theorem dX12_acts_40 : decode cX12_acts 40 = .ok (.getfield 7, 3) := by decide +kernel
theorem dX12_acts_43 : decode cX12_acts 43 = .ok (.iload 4, 2) := by decide +kernel
theorem dX12_acts_45 : decode cX12_acts 45 = .ok (.iaload, 1) := by decide +kernel
theorem dX12_acts_46 : decode cX12_acts 46 = .ok (.iconst (-1), 1) := by decide +kernel
theorem dX12_acts_47 : decode cX12_acts 47 = .ok (.if_icmp .ne 12, 3) := by decide +kernel
theorem dX12_acts_50 : decode cX12_acts 50 = .ok (.aload_n 0, 1) := by decide +kernel
theorem dX12_acts_51 : decode cX12_acts 51 = .ok (.bipush 6, 2) := by decide +kernel
theorem dX12_acts_53 : decode cX12_acts 53 = .ok (.invokevirtual 87, 3) := by decide +kernel
theorem dX12_acts_56 : decode cX12_acts 56 = .ok (.goto 16, 3) := by decide +kernel
theorem dX12_acts_59 : decode cX12_acts 59 = .ok (.aload_n 0, 1) := by decide +kernel
theorem dX12_acts_60 : decode cX12_acts 60 = .ok (.aload_n 0, 1) := by decide +kernel
theorem dX12_acts_61 : decode cX12_acts 61 = .ok (.getfield 7, 3) := by decide +kernel
theorem dX12_acts_64 : decode cX12_acts 64 = .ok (.iload 4, 2) := by decide +kernel
theorem dX12_acts_66 : decode cX12_acts 66 = .ok (.iload_n 3, 1) := by decide +kernel
theorem dX12_acts_67 : decode cX12_acts 67 = .ok (.iadd, 1) := by decide +kernel
theorem dX12_acts_68 : decode cX12_acts 68 = .ok (.iaload, 1) := by decide +kernel
theorem dX12_acts_69 : decode cX12_acts 69 = .ok (.invokevirtual 91, 3) := by decide +kernel
theorem dX12_acts_72 : decode cX12_acts 72 = .ok (.ireturn, 1) := by decide +kernel
noncomputable def fX12_acts_j26 (rf : Nat → Nat → Nat) (a0 : Nat) (μ0 : o_Mem) : Option (Int32 × o_Mem) :=
  o_bd (fX12_refuse rf a0 1 μ0) fun r1 μ1 =>
  some (r1, μ1)
noncomputable def fX12_acts (rf : Nat → Nat → Nat) (a0 : Nat) (x1 : Int32) (x2 : Int32) (x3 : Int32) (μ0 : o_Mem) : Option (Int32 × o_Mem) :=
  o_bd (fX12_isPerson rf a0 x1 μ0) fun r1 μ1 =>
  if r1 = 0 then (
    fX12_acts_j26 rf a0 μ1)
  else (
    o_bd (fX12_isStrike rf a0 x2.toInt64 μ1) fun r2 μ2 =>
    if r2 = 0 then (
      fX12_acts_j26 rf a0 μ2)
    else (
      if x3 < 0 then (
        fX12_acts_j26 rf a0 μ2)
      else (
        if x3 ≤ 1 then (
          o_bd (fX12_actRow rf x1 x2 μ2) fun r3 μ3 =>
          o_ck (0 ≤ (r3).toInt ∧ (r3).toInt < 3756) <|
          if (μ3.1 (rf a0 0) r3.toNatClampNeg) = (-1) then (
            o_bd (fX12_refuse rf a0 6 μ3) fun r5 μ5 =>
            some (r5, μ5))
          else (
            o_ck (0 ≤ ((r3 + x3)).toInt ∧ ((r3 + x3)).toInt < 3756) <|
            o_bd (fX12_gives rf a0 (μ3.1 (rf a0 0) ((r3 + x3)).toNatClampNeg) μ3) fun r4 μ4 =>
            some (r4, μ4)))
        else (
          fX12_acts_j26 rf a0 μ2))))
set_option maxRecDepth 20000 in
theorem dnX12_acts_j26 {X : o_Cx} (hX : o_ok X) {d : Nat} {a0 : Nat} {μ0 : o_Mem} {q : Int32 → o_Mem → Prop} (h0 : o_is X a0 (.inl 12)) (h : o_Post (fX12_acts_j26 (o_rf X) a0 μ0) q) : o_Ev X (d + 1) mX12_acts 26 [some (.ref (o_ad X a0)), none, none, none, none] [] μ0 (o_QI q) := by
  unfold fX12_acts_j26 at h
  refine s_aload_n (i := 0) dX12_acts_26 rfl rfl ?_
  refine s_iconst dX12_acts_27 kI_1 ?_
  refine s_callVi (C := mX12_refuse) (As := [.int 1]) (rest := []) (L0 := [some (.ref (o_ad X a0)), some (.int 1)]) hX h0 clX12_87 dX12_acts_28 rfl rfl (Nat.le_of_ble_eq_true rfl) (Nat.le_of_ble_eq_true rfl) (dnX12_refuse hX h0 (o_bdp h)) (fun r1 μ1 h => ?_)
  exact s_ireturn rfl dX12_acts_31 ⟨_, rfl, o_ret h⟩
set_option maxRecDepth 20000 in
theorem dnX12_acts {X : o_Cx} (hX : o_ok X) {d : Nat} {a0 : Nat} {x1 : Int32} {x2 : Int32} {x3 : Int32} {μ0 : o_Mem} {q : Int32 → o_Mem → Prop} (h0 : o_is X a0 (.inl 12)) (h : o_Post (fX12_acts (o_rf X) a0 x1 x2 x3 μ0) q) : o_Ev X (d + 1) mX12_acts 0 [some (.ref (o_ad X a0)), some (.int x1), some (.int x2), some (.int x3), none] [] μ0 (o_QI q) := by
  unfold fX12_acts at h
  refine s_aload_n (i := 0) dX12_acts_0 rfl rfl ?_
  refine s_iload_n (i := 1) dX12_acts_1 rfl rfl ?_
  refine s_callVz (C := mX12_isPerson) (As := [.int x1]) (rest := []) (L0 := [some (.ref (o_ad X a0)), some (.int x1)]) hX h0 clX12_269 dX12_acts_2 rfl rfl (Nat.le_of_ble_eq_true rfl) (Nat.le_of_ble_eq_true rfl) (dnX12_isPerson hX h0 (o_bdp h)) (fun r1 μ1 zr1 h => ?_)
  refine s_if_eq (tgt := 26) dX12_acts_5 rfl (fun c1 => ?_) (fun c1 => ?_)
  · have h := o_if_t c1 h
    refine s_mask [true, false, false, false, false] (L' := [some (.ref (o_ad X a0)), none, none, none, none]) rfl ?_
    exact dnX12_acts_j26 hX h0 h
  · have h := o_if_f c1 h
    refine s_aload_n (i := 0) dX12_acts_8 rfl rfl ?_
    refine s_iload_n (i := 2) dX12_acts_9 rfl rfl ?_
    refine s_i2l dX12_acts_10 ?_
    refine s_callVz (C := mX12_isStrike) (As := [.long x2.toInt64]) (rest := []) (L0 := [some (.ref (o_ad X a0)), some (.long x2.toInt64), none]) hX h0 clX12_284 dX12_acts_11 rfl rfl (Nat.le_of_ble_eq_true rfl) (Nat.le_of_ble_eq_true rfl) (dnX12_isStrike hX h0 (o_bdp h)) (fun r2 μ2 zr2 h => ?_)
    refine s_if_eq (tgt := 26) dX12_acts_14 rfl (fun c1 => ?_) (fun c1 => ?_)
    · have h := o_if_t c1 h
      refine s_mask [true, false, false, false, false] (L' := [some (.ref (o_ad X a0)), none, none, none, none]) rfl ?_
      exact dnX12_acts_j26 hX h0 h
    · have h := o_if_f c1 h
      refine s_iload_n (i := 3) dX12_acts_17 rfl rfl ?_
      refine s_if_lt (tgt := 26) dX12_acts_18 rfl (fun c1 => ?_) (fun c1 => ?_)
      · have h := o_if_t c1 h
        refine s_mask [true, false, false, false, false] (L' := [some (.ref (o_ad X a0)), none, none, none, none]) rfl ?_
        exact dnX12_acts_j26 hX h0 h
      · have h := o_if_f c1 h
        refine s_iload_n (i := 3) dX12_acts_21 rfl rfl ?_
        refine s_iconst dX12_acts_22 kI_1 ?_
        refine s_icmp_le (tgt := 32) dX12_acts_23 rfl (fun c1 => ?_) (fun c1 => ?_)
        · have h := o_if_t c1 h
          refine s_iload_n (i := 1) dX12_acts_32 rfl rfl ?_
          refine s_iload_n (i := 2) dX12_acts_33 rfl rfl ?_
          refine s_callSi (C := mX12_actRow) (As := [.int x1, .int x2]) (rest := []) (L0 := [some (.int x1), some (.int x2)]) clX12_302 dX12_acts_34 rfl rfl (Nat.le_of_ble_eq_true rfl) (Nat.le_of_ble_eq_true rfl) (dnX12_actRow hX  (o_bdp h)) (fun r3 μ3 h => ?_)
          refine s_istore dX12_acts_37 (Nat.le_of_ble_eq_true rfl) rfl ?_
          refine s_aload_n (i := 0) dX12_acts_39 rfl rfl ?_
          refine s_getR hX h0 flX12_7 rfl dX12_acts_40 (fun (g1 : o_is X (o_rf X a0 0) (.inr (0, 3756))) => ?_)
          refine s_iload dX12_acts_43 rfl ?_
          have hc := o_ck_c h
          have h := o_ck_k h
          refine s_ialdK g1 hc rfl dX12_acts_45 ?_
          refine s_iconst dX12_acts_46 kI_m1 ?_
          refine s_icmp_ne (tgt := 59) dX12_acts_47 rfl (fun c1 => ?_) (fun c1 => ?_)
          · have h := o_if_f c1 h
            refine s_aload_n (i := 0) dX12_acts_59 rfl rfl ?_
            refine s_aload_n (i := 0) dX12_acts_60 rfl rfl ?_
            refine s_getR hX h0 flX12_7 rfl dX12_acts_61 (fun (g2 : o_is X (o_rf X a0 0) (.inr (0, 3756))) => ?_)
            refine s_iload dX12_acts_64 rfl ?_
            refine s_iload_n (i := 3) dX12_acts_66 rfl rfl ?_
            refine s_iadd dX12_acts_67 ?_
            have hc := o_ck_c h
            have h := o_ck_k h
            refine s_ialdK g2 hc rfl dX12_acts_68 ?_
            refine s_callVi (C := mX12_gives) (As := [.int (μ3.1 (o_rf X a0 0) ((r3 + x3)).toNatClampNeg)]) (rest := []) (L0 := [some (.ref (o_ad X a0)), some (.int (μ3.1 (o_rf X a0 0) ((r3 + x3)).toNatClampNeg))]) hX h0 clX12_91 dX12_acts_69 rfl rfl (Nat.le_of_ble_eq_true rfl) (Nat.le_of_ble_eq_true rfl) (dnX12_gives hX h0 (o_bdp h)) (fun r4 μ4 h => ?_)
            exact s_ireturn rfl dX12_acts_72 ⟨_, rfl, o_ret h⟩
          · have h := o_if_t c1 h
            refine s_aload_n (i := 0) dX12_acts_50 rfl rfl ?_
            refine s_bipush dX12_acts_51 kB_6 ?_
            refine s_callVi (C := mX12_refuse) (As := [.int 6]) (rest := []) (L0 := [some (.ref (o_ad X a0)), some (.int 6)]) hX h0 clX12_87 dX12_acts_53 rfl rfl (Nat.le_of_ble_eq_true rfl) (Nat.le_of_ble_eq_true rfl) (dnX12_refuse hX h0 (o_bdp h)) (fun r5 μ5 h => ?_)
            refine s_goto (tgt := 72) dX12_acts_56 rfl ?_
            exact s_ireturn rfl dX12_acts_72 ⟨_, rfl, o_ret h⟩
        · have h := o_if_f c1 h
          refine s_mask [true, false, false, false, false] (L' := [some (.ref (o_ad X a0)), none, none, none, none]) rfl ?_
          exact dnX12_acts_j26 hX h0 h
theorem dX12_letter_0 : decode cX12_letter 0 = .ok (.aload_n 0, 1) := by decide +kernel
theorem dX12_letter_1 : decode cX12_letter 1 = .ok (.iload_n 1, 1) := by decide +kernel
theorem dX12_letter_2 : decode cX12_letter 2 = .ok (.invokevirtual 305, 3) := by decide +kernel
theorem dX12_letter_5 : decode cX12_letter 5 = .ok (.ifCond .eq 30, 3) := by decide +kernel
theorem dX12_letter_8 : decode cX12_letter 8 = .ok (.iload_n 2, 1) := by decide +kernel
theorem dX12_letter_9 : decode cX12_letter 9 = .ok (.ifCond .lt 26, 3) := by decide +kernel
theorem dX12_letter_12 : decode cX12_letter 12 = .ok (.iload_n 2, 1) := by decide +kernel
theorem dX12_letter_13 : decode cX12_letter 13 = .ok (.iconst 3, 1) := by decide +kernel
theorem dX12_letter_14 : decode cX12_letter 14 = .ok (.if_icmp .gt 21, 3) := by decide +kernel
theorem dX12_letter_17 : decode cX12_letter 17 = .ok (.aload_n 0, 1) := by decide +kernel
theorem dX12_letter_18 : decode cX12_letter 18 = .ok (.aload_n 0, 1) := by decide +kernel
theorem dX12_letter_19 : decode cX12_letter 19 = .ok (.getfield 7, 3) := by decide +kernel
theorem dX12_letter_22 : decode cX12_letter 22 = .ok (.iload_n 1, 1) := by decide +kernel
theorem dX12_letter_23 : decode cX12_letter 23 = .ok (.invokestatic 308, 3) := by decide +kernel
theorem dX12_letter_26 : decode cX12_letter 26 = .ok (.iload_n 2, 1) := by decide +kernel
theorem dX12_letter_27 : decode cX12_letter 27 = .ok (.iadd, 1) := by decide +kernel
theorem dX12_letter_28 : decode cX12_letter 28 = .ok (.iaload, 1) := by decide +kernel
theorem dX12_letter_29 : decode cX12_letter 29 = .ok (.invokevirtual 91, 3) := by decide +kernel
theorem dX12_letter_32 : decode cX12_letter 32 = .ok (.goto 8, 3) := by decide +kernel
theorem dX12_letter_35 : decode cX12_letter 35 = .ok (.aload_n 0, 1) := by decide +kernel
theorem dX12_letter_36 : decode cX12_letter 36 = .ok (.iconst 1, 1) := by decide +kernel
theorem dX12_letter_37 : decode cX12_letter 37 = .ok (.invokevirtual 87, 3) := by decide +kernel
theorem dX12_letter_40 : decode cX12_letter 40 = .ok (.ireturn, 1) := by decide +kernel
noncomputable def fX12_letter_j35 (rf : Nat → Nat → Nat) (a0 : Nat) (μ0 : o_Mem) : Option (Int32 × o_Mem) :=
  o_bd (fX12_refuse rf a0 1 μ0) fun r1 μ1 =>
  some (r1, μ1)
noncomputable def fX12_letter (rf : Nat → Nat → Nat) (a0 : Nat) (x1 : Int32) (x2 : Int32) (μ0 : o_Mem) : Option (Int32 × o_Mem) :=
  o_bd (fX12_isLetter rf a0 x1 μ0) fun r1 μ1 =>
  if r1 = 0 then (
    fX12_letter_j35 rf a0 μ1)
  else (
    if x2 < 0 then (
      fX12_letter_j35 rf a0 μ1)
    else (
      if 3 < x2 then (
        fX12_letter_j35 rf a0 μ1)
      else (
        o_bd (fX12_letterRow rf x1 μ1) fun r2 μ2 =>
        o_ck (0 ≤ ((r2 + x2)).toInt ∧ ((r2 + x2)).toInt < 3756) <|
        o_bd (fX12_gives rf a0 (μ2.1 (rf a0 0) ((r2 + x2)).toNatClampNeg) μ2) fun r3 μ3 =>
        some (r3, μ3))))
set_option maxRecDepth 20000 in
theorem dnX12_letter_j35 {X : o_Cx} (hX : o_ok X) {d : Nat} {a0 : Nat} {μ0 : o_Mem} {q : Int32 → o_Mem → Prop} (h0 : o_is X a0 (.inl 12)) (h : o_Post (fX12_letter_j35 (o_rf X) a0 μ0) q) : o_Ev X (d + 1) mX12_letter 35 [some (.ref (o_ad X a0)), none, none] [] μ0 (o_QI q) := by
  unfold fX12_letter_j35 at h
  refine s_aload_n (i := 0) dX12_letter_35 rfl rfl ?_
  refine s_iconst dX12_letter_36 kI_1 ?_
  refine s_callVi (C := mX12_refuse) (As := [.int 1]) (rest := []) (L0 := [some (.ref (o_ad X a0)), some (.int 1)]) hX h0 clX12_87 dX12_letter_37 rfl rfl (Nat.le_of_ble_eq_true rfl) (Nat.le_of_ble_eq_true rfl) (dnX12_refuse hX h0 (o_bdp h)) (fun r1 μ1 h => ?_)
  exact s_ireturn rfl dX12_letter_40 ⟨_, rfl, o_ret h⟩
set_option maxRecDepth 20000 in
theorem dnX12_letter {X : o_Cx} (hX : o_ok X) {d : Nat} {a0 : Nat} {x1 : Int32} {x2 : Int32} {μ0 : o_Mem} {q : Int32 → o_Mem → Prop} (h0 : o_is X a0 (.inl 12)) (h : o_Post (fX12_letter (o_rf X) a0 x1 x2 μ0) q) : o_Ev X (d + 1) mX12_letter 0 [some (.ref (o_ad X a0)), some (.int x1), some (.int x2)] [] μ0 (o_QI q) := by
  unfold fX12_letter at h
  refine s_aload_n (i := 0) dX12_letter_0 rfl rfl ?_
  refine s_iload_n (i := 1) dX12_letter_1 rfl rfl ?_
  refine s_callVz (C := mX12_isLetter) (As := [.int x1]) (rest := []) (L0 := [some (.ref (o_ad X a0)), some (.int x1)]) hX h0 clX12_305 dX12_letter_2 rfl rfl (Nat.le_of_ble_eq_true rfl) (Nat.le_of_ble_eq_true rfl) (dnX12_isLetter hX h0 (o_bdp h)) (fun r1 μ1 zr1 h => ?_)
  refine s_if_eq (tgt := 35) dX12_letter_5 rfl (fun c1 => ?_) (fun c1 => ?_)
  · have h := o_if_t c1 h
    refine s_mask [true, false, false] (L' := [some (.ref (o_ad X a0)), none, none]) rfl ?_
    exact dnX12_letter_j35 hX h0 h
  · have h := o_if_f c1 h
    refine s_iload_n (i := 2) dX12_letter_8 rfl rfl ?_
    refine s_if_lt (tgt := 35) dX12_letter_9 rfl (fun c1 => ?_) (fun c1 => ?_)
    · have h := o_if_t c1 h
      refine s_mask [true, false, false] (L' := [some (.ref (o_ad X a0)), none, none]) rfl ?_
      exact dnX12_letter_j35 hX h0 h
    · have h := o_if_f c1 h
      refine s_iload_n (i := 2) dX12_letter_12 rfl rfl ?_
      refine s_iconst dX12_letter_13 kI_3 ?_
      refine s_icmp_gt (tgt := 35) dX12_letter_14 rfl (fun c1 => ?_) (fun c1 => ?_)
      · have h := o_if_t c1 h
        refine s_mask [true, false, false] (L' := [some (.ref (o_ad X a0)), none, none]) rfl ?_
        exact dnX12_letter_j35 hX h0 h
      · have h := o_if_f c1 h
        refine s_aload_n (i := 0) dX12_letter_17 rfl rfl ?_
        refine s_aload_n (i := 0) dX12_letter_18 rfl rfl ?_
        refine s_getR hX h0 flX12_7 rfl dX12_letter_19 (fun (g1 : o_is X (o_rf X a0 0) (.inr (0, 3756))) => ?_)
        refine s_iload_n (i := 1) dX12_letter_22 rfl rfl ?_
        refine s_callSi (C := mX12_letterRow) (As := [.int x1]) (rest := [.ref (o_ad X (o_rf X a0 0)), .ref (o_ad X a0)]) (L0 := [some (.int x1)]) clX12_308 dX12_letter_23 rfl rfl (Nat.le_of_ble_eq_true rfl) (Nat.le_of_ble_eq_true rfl) (dnX12_letterRow hX  (o_bdp h)) (fun r2 μ2 h => ?_)
        refine s_iload_n (i := 2) dX12_letter_26 rfl rfl ?_
        refine s_iadd dX12_letter_27 ?_
        have hc := o_ck_c h
        have h := o_ck_k h
        refine s_ialdK g1 hc rfl dX12_letter_28 ?_
        refine s_callVi (C := mX12_gives) (As := [.int (μ2.1 (o_rf X a0 0) ((r2 + x2)).toNatClampNeg)]) (rest := []) (L0 := [some (.ref (o_ad X a0)), some (.int (μ2.1 (o_rf X a0 0) ((r2 + x2)).toNatClampNeg))]) hX h0 clX12_91 dX12_letter_29 rfl rfl (Nat.le_of_ble_eq_true rfl) (Nat.le_of_ble_eq_true rfl) (dnX12_gives hX h0 (o_bdp h)) (fun r3 μ3 h => ?_)
        refine s_goto (tgt := 40) dX12_letter_32 rfl ?_
        exact s_ireturn rfl dX12_letter_40 ⟨_, rfl, o_ret h⟩
