theorem dX12_aLaw_0 : decode cX12_aLaw 0 = .ok (.sipush 2535, 3) := by decide +kernel
theorem dX12_aLaw_3 : decode cX12_aLaw 3 = .ok (.bipush 6, 2) := by decide +kernel
theorem dX12_aLaw_5 : decode cX12_aLaw 5 = .ok (.aload_n 0, 1) := by decide +kernel
theorem dX12_aLaw_6 : decode cX12_aLaw 6 = .ok (.getfield 7, 3) := by decide +kernel
theorem dX12_aLaw_9 : decode cX12_aLaw 9 = .ok (.sipush 2507, 3) := by decide +kernel
theorem dX12_aLaw_12 : decode cX12_aLaw 12 = .ok (.iaload, 1) := by decide +kernel
theorem dX12_aLaw_13 : decode cX12_aLaw 13 = .ok (.imul, 1) := by decide +kernel
theorem dX12_aLaw_14 : decode cX12_aLaw 14 = .ok (.iadd, 1) := by decide +kernel
theorem dX12_aLaw_15 : decode cX12_aLaw 15 = .ok (.istore_n 1, 1) := by decide +kernel
theorem dX12_aLaw_16 : decode cX12_aLaw 16 = .ok (.aload_n 0, 1) := by decide +kernel
theorem dX12_aLaw_17 : decode cX12_aLaw 17 = .ok (.getfield 7, 3) := by decide +kernel
theorem dX12_aLaw_20 : decode cX12_aLaw 20 = .ok (.sipush 2507, 3) := by decide +kernel
theorem dX12_aLaw_23 : decode cX12_aLaw 23 = .ok (.iaload, 1) := by decide +kernel
theorem dX12_aLaw_24 : decode cX12_aLaw 24 = .ok (.bipush 8, 2) := by decide +kernel
theorem dX12_aLaw_26 : decode cX12_aLaw 26 = .ok (.if_icmp .ne 10, 3) := by decide +kernel
theorem dX12_aLaw_29 : decode cX12_aLaw 29 = .ok (.aload_n 0, 1) := by decide +kernel
theorem dX12_aLaw_30 : decode cX12_aLaw 30 = .ok (.bipush 6, 2) := by decide +kernel
theorem dX12_aLaw_32 : decode cX12_aLaw 32 = .ok (.invokevirtual 169, 3) := by decide +kernel
theorem dX12_aLaw_35 : decode cX12_aLaw 35 = .ok (.ireturn, 1) := by decide +kernel
theorem dX12_aLaw_36 : decode cX12_aLaw 36 = .ok (.aload_n 0, 1) := by decide +kernel
theorem dX12_aLaw_37 : decode cX12_aLaw 37 = .ok (.invokevirtual 163, 3) := by decide +kernel
theorem dX12_aLaw_40 : decode cX12_aLaw 40 = .ok (.aload_n 0, 1) := by decide +kernel
theorem dX12_aLaw_41 : decode cX12_aLaw 41 = .ok (.iload_n 1, 1) := by decide +kernel
theorem dX12_aLaw_42 : decode cX12_aLaw 42 = .ok (.invokevirtual 212, 3) := by decide +kernel
theorem dX12_aLaw_45 : decode cX12_aLaw 45 = .ok (.ifCond .eq 104, 3) := by decide +kernel
theorem dX12_aLaw_48 : decode cX12_aLaw 48 = .ok (.aload_n 0, 1) := by decide +kernel
theorem dX12_aLaw_49 : decode cX12_aLaw 49 = .ok (.bipush 8, 2) := by decide +kernel
theorem dX12_aLaw_51 : decode cX12_aLaw 51 = .ok (.invokevirtual 199, 3) := by decide +kernel
theorem dX12_aLaw_54 : decode cX12_aLaw 54 = .ok (.ifCond .eq 16, 3) := by decide +kernel
theorem dX12_aLaw_57 : decode cX12_aLaw 57 = .ok (.aload_n 0, 1) := by decide +kernel
theorem dX12_aLaw_58 : decode cX12_aLaw 58 = .ok (.iload_n 1, 1) := by decide +kernel
theorem dX12_aLaw_59 : decode cX12_aLaw 59 = .ok (.iconst 1, 1) := by decide +kernel
theorem dX12_aLaw_60 : decode cX12_aLaw 60 = .ok (.iadd, 1) := by decide +kernel
theorem dX12_aLaw_61 : decode cX12_aLaw 61 = .ok (.iconst 1, 1) := by decide +kernel
theorem dX12_aLaw_62 : decode cX12_aLaw 62 = .ok (.bipush 99, 2) := by decide +kernel
theorem dX12_aLaw_64 : decode cX12_aLaw 64 = .ok (.invokevirtual 202, 3) := by decide +kernel
theorem dX12_aLaw_67 : decode cX12_aLaw 67 = .ok (.ifCond .eq 82, 3) := by decide +kernel
theorem dX12_aLaw_70 : decode cX12_aLaw 70 = .ok (.aload_n 0, 1) := by decide +kernel
theorem dX12_aLaw_71 : decode cX12_aLaw 71 = .ok (.bipush 9, 2) := by decide +kernel
theorem dX12_aLaw_73 : decode cX12_aLaw 73 = .ok (.invokevirtual 199, 3) := by decide +kernel
theorem dX12_aLaw_76 : decode cX12_aLaw 76 = .ok (.ifCond .eq 16, 3) := by decide +kernel
theorem dX12_aLaw_79 : decode cX12_aLaw 79 = .ok (.aload_n 0, 1) := by decide +kernel
theorem dX12_aLaw_80 : decode cX12_aLaw 80 = .ok (.iload_n 1, 1) := by decide +kernel
theorem dX12_aLaw_81 : decode cX12_aLaw 81 = .ok (.iconst 2, 1) := by decide +kernel
theorem dX12_aLaw_82 : decode cX12_aLaw 82 = .ok (.iadd, 1) := by decide +kernel
theorem dX12_aLaw_83 : decode cX12_aLaw 83 = .ok (.iconst 0, 1) := by decide +kernel
theorem dX12_aLaw_84 : decode cX12_aLaw 84 = .ok (.bipush 99, 2) := by decide +kernel
theorem dX12_aLaw_86 : decode cX12_aLaw 86 = .ok (.invokevirtual 202, 3) := by decide +kernel
theorem dX12_aLaw_89 : decode cX12_aLaw 89 = .ok (.ifCond .eq 60, 3) := by decide +kernel
theorem dX12_aLaw_92 : decode cX12_aLaw 92 = .ok (.aload_n 0, 1) := by decide +kernel
theorem dX12_aLaw_93 : decode cX12_aLaw 93 = .ok (.bipush 10, 2) := by decide +kernel
theorem dX12_aLaw_95 : decode cX12_aLaw 95 = .ok (.invokevirtual 199, 3) := by decide +kernel
theorem dX12_aLaw_98 : decode cX12_aLaw 98 = .ok (.ifCond .eq 13, 3) := by decide +kernel
theorem dX12_aLaw_101 : decode cX12_aLaw 101 = .ok (.aload_n 0, 1) := by decide +kernel
theorem dX12_aLaw_102 : decode cX12_aLaw 102 = .ok (.iload_n 1, 1) := by decide +kernel
theorem dX12_aLaw_103 : decode cX12_aLaw 103 = .ok (.iconst 3, 1) := by decide +kernel
theorem dX12_aLaw_104 : decode cX12_aLaw 104 = .ok (.iadd, 1) := by decide +kernel
theorem dX12_aLaw_105 : decode cX12_aLaw 105 = .ok (.invokevirtual 209, 3) := by decide +kernel
theorem dX12_aLaw_108 : decode cX12_aLaw 108 = .ok (.ifCond .eq 41, 3) := by decide +kernel
theorem dX12_aLaw_111 : decode cX12_aLaw 111 = .ok (.aload_n 0, 1) := by decide +kernel
theorem dX12_aLaw_112 : decode cX12_aLaw 112 = .ok (.bipush 11, 2) := by decide +kernel
theorem dX12_aLaw_114 : decode cX12_aLaw 114 = .ok (.invokevirtual 199, 3) := by decide +kernel
theorem dX12_aLaw_117 : decode cX12_aLaw 117 = .ok (.ifCond .eq 13, 3) := by decide +kernel
theorem dX12_aLaw_120 : decode cX12_aLaw 120 = .ok (.aload_n 0, 1) := by decide +kernel
theorem dX12_aLaw_121 : decode cX12_aLaw 121 = .ok (.iload_n 1, 1) := by decide +kernel
theorem dX12_aLaw_122 : decode cX12_aLaw 122 = .ok (.iconst 4, 1) := by decide +kernel
theorem dX12_aLaw_123 : decode cX12_aLaw 123 = .ok (.iadd, 1) := by decide +kernel
theorem dX12_aLaw_124 : decode cX12_aLaw 124 = .ok (.invokevirtual 193, 3) := by decide +kernel
theorem dX12_aLaw_127 : decode cX12_aLaw 127 = .ok (.ifCond .eq 22, 3) := by decide +kernel
theorem dX12_aLaw_130 : decode cX12_aLaw 130 = .ok (.aload_n 0, 1) := by decide +kernel
theorem dX12_aLaw_131 : decode cX12_aLaw 131 = .ok (.bipush 12, 2) := by decide +kernel
theorem dX12_aLaw_133 : decode cX12_aLaw 133 = .ok (.invokevirtual 199, 3) := by decide +kernel
theorem dX12_aLaw_136 : decode cX12_aLaw 136 = .ok (.ifCond .eq 15, 3) := by decide +kernel
theorem dX12_aLaw_139 : decode cX12_aLaw 139 = .ok (.aload_n 0, 1) := by decide +kernel
theorem dX12_aLaw_140 : decode cX12_aLaw 140 = .ok (.iload_n 1, 1) := by decide +kernel
theorem dX12_aLaw_141 : decode cX12_aLaw 141 = .ok (.iconst 5, 1) := by decide +kernel
theorem dX12_aLaw_142 : decode cX12_aLaw 142 = .ok (.iadd, 1) := by decide +kernel
theorem dX12_aLaw_143 : decode cX12_aLaw 143 = .ok (.invokevirtual 193, 3) := by decide +kernel
theorem dX12_aLaw_146 : decode cX12_aLaw 146 = .ok (.ifCond .ne 5, 3) := by decide +kernel
theorem dX12_aLaw_149 : decode cX12_aLaw 149 = .ok (.iconst 0, 1) := by decide +kernel
theorem dX12_aLaw_150 : decode cX12_aLaw 150 = .ok (.ireturn, 1) := by decide +kernel
theorem dX12_aLaw_151 : decode cX12_aLaw 151 = .ok (.aload_n 0, 1) := by decide +kernel
theorem dX12_aLaw_152 : decode cX12_aLaw 152 = .ok (.getfield 7, 3) := by decide +kernel
theorem dX12_aLaw_155 : decode cX12_aLaw 155 = .ok (.sipush 2507, 3) := by decide +kernel
theorem dX12_aLaw_158 : decode cX12_aLaw 158 = .ok (.dup2, 1) := by decide +kernel
theorem dX12_aLaw_159 : decode cX12_aLaw 159 = .ok (.iaload, 1) := by decide +kernel
theorem dX12_aLaw_160 : decode cX12_aLaw 160 = .ok (.iconst 1, 1) := by decide +kernel
theorem dX12_aLaw_161 : decode cX12_aLaw 161 = .ok (.iadd, 1) := by decide +kernel
theorem dX12_aLaw_162 : decode cX12_aLaw 162 = .ok (.iastore, 1) := by decide +kernel
theorem dX12_aLaw_163 : decode cX12_aLaw 163 = .ok (.iconst 1, 1) := by decide +kernel
theorem dX12_aLaw_164 : decode cX12_aLaw 164 = .ok (.ireturn, 1) := by decide +kernel
noncomputable def fX12_aLaw_j151 (rf : Nat → Nat → Nat) (a0 : Nat) (μ0 : o_Mem) : Option (Int32 × o_Mem) :=
  o_seq (o_wI μ0 (rf a0 0) 2507 ((μ0.1 (rf a0 0) 2507) + 1)) fun μ1 =>
  some (1, μ1)
noncomputable def fX12_aLaw_j130 (rf : Nat → Nat → Nat) (a0 : Nat) (x1 : Int32) (μ0 : o_Mem) : Option (Int32 × o_Mem) :=
  o_bd (fX12_isThere rf a0 12 μ0) fun r1 μ1 =>
  if r1 = 0 then (
    fX12_aLaw_j151 rf a0 μ1)
  else (
    o_bd (fX12_personTo rf a0 (x1 + 5) μ1) fun r2 μ2 =>
    if r2 = 0 then (
      some (0, μ2))
    else (
      fX12_aLaw_j151 rf a0 μ2))
noncomputable def fX12_aLaw_j111 (rf : Nat → Nat → Nat) (a0 : Nat) (x1 : Int32) (μ0 : o_Mem) : Option (Int32 × o_Mem) :=
  o_bd (fX12_isThere rf a0 11 μ0) fun r1 μ1 =>
  if r1 = 0 then (
    fX12_aLaw_j130 rf a0 x1 μ1)
  else (
    o_bd (fX12_personTo rf a0 (x1 + 4) μ1) fun r2 μ2 =>
    if r2 = 0 then (
      some (0, μ2))
    else (
      fX12_aLaw_j130 rf a0 x1 μ2))
noncomputable def fX12_aLaw_j92 (rf : Nat → Nat → Nat) (a0 : Nat) (x1 : Int32) (μ0 : o_Mem) : Option (Int32 × o_Mem) :=
  o_bd (fX12_isThere rf a0 10 μ0) fun r1 μ1 =>
  if r1 = 0 then (
    fX12_aLaw_j111 rf a0 x1 μ1)
  else (
    o_bd (fX12_handTo rf a0 (x1 + 3) μ1) fun r2 μ2 =>
    if r2 = 0 then (
      some (0, μ2))
    else (
      fX12_aLaw_j111 rf a0 x1 μ2))
noncomputable def fX12_aLaw_j70 (rf : Nat → Nat → Nat) (a0 : Nat) (x1 : Int32) (μ0 : o_Mem) : Option (Int32 × o_Mem) :=
  o_bd (fX12_isThere rf a0 9 μ0) fun r1 μ1 =>
  if r1 = 0 then (
    fX12_aLaw_j92 rf a0 x1 μ1)
  else (
    o_bd (fX12_number rf a0 (x1 + 2) 0 99 μ1) fun r2 μ2 =>
    if r2 = 0 then (
      some (0, μ2))
    else (
      fX12_aLaw_j92 rf a0 x1 μ2))
noncomputable def fX12_aLaw (rf : Nat → Nat → Nat) (a0 : Nat) (μ0 : o_Mem) : Option (Int32 × o_Mem) :=
  if (μ0.1 (rf a0 0) 2507) = 8 then (
    o_bd (fX12_fails rf a0 6 μ0) fun r4 μ5 =>
    some (r4, μ5))
  else (
    o_bd (fX12_ahead rf a0 μ0) fun _u μ1 =>
    o_bd (fX12_strikeTo rf a0 (2535 + (6 * (μ0.1 (rf a0 0) 2507))) μ1) fun r1 μ2 =>
    if r1 = 0 then (
      some (0, μ2))
    else (
      o_bd (fX12_isThere rf a0 8 μ2) fun r2 μ3 =>
      if r2 = 0 then (
        fX12_aLaw_j70 rf a0 (2535 + (6 * (μ0.1 (rf a0 0) 2507))) μ3)
      else (
        o_bd (fX12_number rf a0 ((2535 + (6 * (μ0.1 (rf a0 0) 2507))) + 1) 1 99 μ3) fun r3 μ4 =>
        if r3 = 0 then (
          some (0, μ4))
        else (
          fX12_aLaw_j70 rf a0 (2535 + (6 * (μ0.1 (rf a0 0) 2507))) μ4))))
set_option maxRecDepth 20000 in
theorem dnX12_aLaw_j151 {X : o_Cx} (hX : o_ok X) {d : Nat} {a0 : Nat} {μ0 : o_Mem} {q : Int32 → o_Mem → Prop} (h0 : o_is X a0 (.inl 12)) (h : o_Post (fX12_aLaw_j151 (o_rf X) a0 μ0) q) : o_Ev X (d + 8) mX12_aLaw 151 [some (.ref (o_ad X a0)), none] [] μ0 (o_QZ q) := by
  unfold fX12_aLaw_j151 at h
  refine s_aload_n (i := 0) dX12_aLaw_151 rfl rfl ?_
  refine s_getR hX h0 flX12_7 rfl dX12_aLaw_152 (fun (g1 : o_is X (o_rf X a0 0) (.inr (0, 3756))) => ?_)
  refine s_sipush dX12_aLaw_155 kS_2507 ?_
  refine s_dup2 dX12_aLaw_158 rfl rfl ?_
  refine s_ialdK g1 ⟨by decide, by decide⟩ kN_2507 dX12_aLaw_159 ?_
  refine s_iconst dX12_aLaw_160 kI_1 ?_
  refine s_iadd dX12_aLaw_161 ?_
  refine s_iastK hX g1 ⟨by decide, by decide⟩ kN_2507 dX12_aLaw_162 (o_gen h (fun μ1 h => ?_))
  refine s_iconst dX12_aLaw_163 kI_1 ?_
  exact s_zreturn rfl (Or.inr rfl) dX12_aLaw_164 ⟨_, rfl, (Or.inr rfl), o_ret h⟩
set_option maxRecDepth 20000 in
theorem dnX12_aLaw_j130 {X : o_Cx} (hX : o_ok X) {d : Nat} {a0 : Nat} {x1 : Int32} {μ0 : o_Mem} {q : Int32 → o_Mem → Prop} (h0 : o_is X a0 (.inl 12)) (h : o_Post (fX12_aLaw_j130 (o_rf X) a0 x1 μ0) q) : o_Ev X (d + 8) mX12_aLaw 130 [some (.ref (o_ad X a0)), some (.int x1)] [] μ0 (o_QZ q) := by
  unfold fX12_aLaw_j130 at h
  refine s_aload_n (i := 0) dX12_aLaw_130 rfl rfl ?_
  refine s_bipush dX12_aLaw_131 kB_12 ?_
  refine s_callVz (C := mX12_isThere) (As := [.int 12]) (rest := []) (L0 := [some (.ref (o_ad X a0)), some (.int 12)]) hX h0 clX12_199 dX12_aLaw_133 rfl rfl (Nat.le_of_ble_eq_true rfl) (Nat.le_of_ble_eq_true rfl) (dnX12_isThere hX h0 (o_bdp h)) (fun r1 μ1 zr1 h => ?_)
  refine s_if_eq (tgt := 151) dX12_aLaw_136 rfl (fun c1 => ?_) (fun c1 => ?_)
  · have h := o_if_t c1 h
    refine s_mask [true, false] (L' := [some (.ref (o_ad X a0)), none]) rfl ?_
    exact dnX12_aLaw_j151 hX h0 h
  · have h := o_if_f c1 h
    refine s_aload_n (i := 0) dX12_aLaw_139 rfl rfl ?_
    refine s_iload_n (i := 1) dX12_aLaw_140 rfl rfl ?_
    refine s_iconst dX12_aLaw_141 kI_5 ?_
    refine s_iadd dX12_aLaw_142 ?_
    refine s_callVz (C := mX12_personTo) (As := [.int (x1 + 5)]) (rest := []) (L0 := [some (.ref (o_ad X a0)), some (.int (x1 + 5))]) hX h0 clX12_193 dX12_aLaw_143 rfl rfl (Nat.le_of_ble_eq_true rfl) (Nat.le_of_ble_eq_true rfl) (dnX12_personTo hX h0 (o_bdp h)) (fun r2 μ2 zr2 h => ?_)
    refine s_if_ne (tgt := 151) dX12_aLaw_146 rfl (fun c1 => ?_) (fun c1 => ?_)
    · have h := o_if_f c1 h
      refine s_mask [true, false] (L' := [some (.ref (o_ad X a0)), none]) rfl ?_
      exact dnX12_aLaw_j151 hX h0 h
    · have h := o_if_t c1 h
      refine s_iconst dX12_aLaw_149 kI_0 ?_
      exact s_zreturn rfl (Or.inl rfl) dX12_aLaw_150 ⟨_, rfl, (Or.inl rfl), o_ret h⟩
set_option maxRecDepth 20000 in
theorem dnX12_aLaw_j111 {X : o_Cx} (hX : o_ok X) {d : Nat} {a0 : Nat} {x1 : Int32} {μ0 : o_Mem} {q : Int32 → o_Mem → Prop} (h0 : o_is X a0 (.inl 12)) (h : o_Post (fX12_aLaw_j111 (o_rf X) a0 x1 μ0) q) : o_Ev X (d + 8) mX12_aLaw 111 [some (.ref (o_ad X a0)), some (.int x1)] [] μ0 (o_QZ q) := by
  unfold fX12_aLaw_j111 at h
  refine s_aload_n (i := 0) dX12_aLaw_111 rfl rfl ?_
  refine s_bipush dX12_aLaw_112 kB_11 ?_
  refine s_callVz (C := mX12_isThere) (As := [.int 11]) (rest := []) (L0 := [some (.ref (o_ad X a0)), some (.int 11)]) hX h0 clX12_199 dX12_aLaw_114 rfl rfl (Nat.le_of_ble_eq_true rfl) (Nat.le_of_ble_eq_true rfl) (dnX12_isThere hX h0 (o_bdp h)) (fun r1 μ1 zr1 h => ?_)
  refine s_if_eq (tgt := 130) dX12_aLaw_117 rfl (fun c1 => ?_) (fun c1 => ?_)
  · have h := o_if_t c1 h
    refine s_mask [true, true] (L' := [some (.ref (o_ad X a0)), some (.int x1)]) rfl ?_
    exact dnX12_aLaw_j130 hX h0 h
  · have h := o_if_f c1 h
    refine s_aload_n (i := 0) dX12_aLaw_120 rfl rfl ?_
    refine s_iload_n (i := 1) dX12_aLaw_121 rfl rfl ?_
    refine s_iconst dX12_aLaw_122 kI_4 ?_
    refine s_iadd dX12_aLaw_123 ?_
    refine s_callVz (C := mX12_personTo) (As := [.int (x1 + 4)]) (rest := []) (L0 := [some (.ref (o_ad X a0)), some (.int (x1 + 4))]) hX h0 clX12_193 dX12_aLaw_124 rfl rfl (Nat.le_of_ble_eq_true rfl) (Nat.le_of_ble_eq_true rfl) (dnX12_personTo hX h0 (o_bdp h)) (fun r2 μ2 zr2 h => ?_)
    refine s_if_eq (tgt := 149) dX12_aLaw_127 rfl (fun c1 => ?_) (fun c1 => ?_)
    · have h := o_if_t c1 h
      refine s_iconst dX12_aLaw_149 kI_0 ?_
      exact s_zreturn rfl (Or.inl rfl) dX12_aLaw_150 ⟨_, rfl, (Or.inl rfl), o_ret h⟩
    · have h := o_if_f c1 h
      refine s_mask [true, true] (L' := [some (.ref (o_ad X a0)), some (.int x1)]) rfl ?_
      exact dnX12_aLaw_j130 hX h0 h
set_option maxRecDepth 20000 in
theorem dnX12_aLaw_j92 {X : o_Cx} (hX : o_ok X) {d : Nat} {a0 : Nat} {x1 : Int32} {μ0 : o_Mem} {q : Int32 → o_Mem → Prop} (h0 : o_is X a0 (.inl 12)) (h : o_Post (fX12_aLaw_j92 (o_rf X) a0 x1 μ0) q) : o_Ev X (d + 8) mX12_aLaw 92 [some (.ref (o_ad X a0)), some (.int x1)] [] μ0 (o_QZ q) := by
  unfold fX12_aLaw_j92 at h
  refine s_aload_n (i := 0) dX12_aLaw_92 rfl rfl ?_
  refine s_bipush dX12_aLaw_93 kB_10 ?_
  refine s_callVz (C := mX12_isThere) (As := [.int 10]) (rest := []) (L0 := [some (.ref (o_ad X a0)), some (.int 10)]) hX h0 clX12_199 dX12_aLaw_95 rfl rfl (Nat.le_of_ble_eq_true rfl) (Nat.le_of_ble_eq_true rfl) (dnX12_isThere hX h0 (o_bdp h)) (fun r1 μ1 zr1 h => ?_)
  refine s_if_eq (tgt := 111) dX12_aLaw_98 rfl (fun c1 => ?_) (fun c1 => ?_)
  · have h := o_if_t c1 h
    refine s_mask [true, true] (L' := [some (.ref (o_ad X a0)), some (.int x1)]) rfl ?_
    exact dnX12_aLaw_j111 hX h0 h
  · have h := o_if_f c1 h
    refine s_aload_n (i := 0) dX12_aLaw_101 rfl rfl ?_
    refine s_iload_n (i := 1) dX12_aLaw_102 rfl rfl ?_
    refine s_iconst dX12_aLaw_103 kI_3 ?_
    refine s_iadd dX12_aLaw_104 ?_
    refine s_callVz (C := mX12_handTo) (As := [.int (x1 + 3)]) (rest := []) (L0 := [some (.ref (o_ad X a0)), some (.int (x1 + 3))]) hX h0 clX12_209 dX12_aLaw_105 rfl rfl (Nat.le_of_ble_eq_true rfl) (Nat.le_of_ble_eq_true rfl) (dnX12_handTo hX h0 (o_bdp h)) (fun r2 μ2 zr2 h => ?_)
    refine s_if_eq (tgt := 149) dX12_aLaw_108 rfl (fun c1 => ?_) (fun c1 => ?_)
    · have h := o_if_t c1 h
      refine s_iconst dX12_aLaw_149 kI_0 ?_
      exact s_zreturn rfl (Or.inl rfl) dX12_aLaw_150 ⟨_, rfl, (Or.inl rfl), o_ret h⟩
    · have h := o_if_f c1 h
      refine s_mask [true, true] (L' := [some (.ref (o_ad X a0)), some (.int x1)]) rfl ?_
      exact dnX12_aLaw_j111 hX h0 h
set_option maxRecDepth 20000 in
theorem dnX12_aLaw_j70 {X : o_Cx} (hX : o_ok X) {d : Nat} {a0 : Nat} {x1 : Int32} {μ0 : o_Mem} {q : Int32 → o_Mem → Prop} (h0 : o_is X a0 (.inl 12)) (h : o_Post (fX12_aLaw_j70 (o_rf X) a0 x1 μ0) q) : o_Ev X (d + 8) mX12_aLaw 70 [some (.ref (o_ad X a0)), some (.int x1)] [] μ0 (o_QZ q) := by
  unfold fX12_aLaw_j70 at h
  refine s_aload_n (i := 0) dX12_aLaw_70 rfl rfl ?_
  refine s_bipush dX12_aLaw_71 kB_9 ?_
  refine s_callVz (C := mX12_isThere) (As := [.int 9]) (rest := []) (L0 := [some (.ref (o_ad X a0)), some (.int 9)]) hX h0 clX12_199 dX12_aLaw_73 rfl rfl (Nat.le_of_ble_eq_true rfl) (Nat.le_of_ble_eq_true rfl) (dnX12_isThere hX h0 (o_bdp h)) (fun r1 μ1 zr1 h => ?_)
  refine s_if_eq (tgt := 92) dX12_aLaw_76 rfl (fun c1 => ?_) (fun c1 => ?_)
  · have h := o_if_t c1 h
    refine s_mask [true, true] (L' := [some (.ref (o_ad X a0)), some (.int x1)]) rfl ?_
    exact dnX12_aLaw_j92 hX h0 h
  · have h := o_if_f c1 h
    refine s_aload_n (i := 0) dX12_aLaw_79 rfl rfl ?_
    refine s_iload_n (i := 1) dX12_aLaw_80 rfl rfl ?_
    refine s_iconst dX12_aLaw_81 kI_2 ?_
    refine s_iadd dX12_aLaw_82 ?_
    refine s_iconst dX12_aLaw_83 kI_0 ?_
    refine s_bipush dX12_aLaw_84 kB_99 ?_
    refine s_callVz (C := mX12_number) (As := [.int (x1 + 2), .int 0, .int 99]) (rest := []) (L0 := [some (.ref (o_ad X a0)), some (.int (x1 + 2)), some (.int 0), some (.int 99)]) hX h0 clX12_202 dX12_aLaw_86 rfl rfl (Nat.le_of_ble_eq_true rfl) (Nat.le_of_ble_eq_true rfl) (dnX12_number hX h0 (o_bdp h)) (fun r2 μ2 zr2 h => ?_)
    refine s_if_eq (tgt := 149) dX12_aLaw_89 rfl (fun c1 => ?_) (fun c1 => ?_)
    · have h := o_if_t c1 h
      refine s_iconst dX12_aLaw_149 kI_0 ?_
      exact s_zreturn rfl (Or.inl rfl) dX12_aLaw_150 ⟨_, rfl, (Or.inl rfl), o_ret h⟩
    · have h := o_if_f c1 h
      refine s_mask [true, true] (L' := [some (.ref (o_ad X a0)), some (.int x1)]) rfl ?_
      exact dnX12_aLaw_j92 hX h0 h
set_option maxRecDepth 20000 in
theorem dnX12_aLaw {X : o_Cx} (hX : o_ok X) {d : Nat} {a0 : Nat} {μ0 : o_Mem} {q : Int32 → o_Mem → Prop} (h0 : o_is X a0 (.inl 12)) (h : o_Post (fX12_aLaw (o_rf X) a0 μ0) q) : o_Ev X (d + 8) mX12_aLaw 0 [some (.ref (o_ad X a0)), none] [] μ0 (o_QZ q) := by
  unfold fX12_aLaw at h
  refine s_sipush dX12_aLaw_0 kS_2535 ?_
  refine s_bipush dX12_aLaw_3 kB_6 ?_
  refine s_aload_n (i := 0) dX12_aLaw_5 rfl rfl ?_
  refine s_getR hX h0 flX12_7 rfl dX12_aLaw_6 (fun (g1 : o_is X (o_rf X a0 0) (.inr (0, 3756))) => ?_)
  refine s_sipush dX12_aLaw_9 kS_2507 ?_
  refine s_ialdK g1 ⟨by decide, by decide⟩ kN_2507 dX12_aLaw_12 ?_
  refine s_imul dX12_aLaw_13 ?_
  refine s_iadd dX12_aLaw_14 ?_
  refine s_istore_n (i := 1) dX12_aLaw_15 rfl (Nat.le_of_ble_eq_true rfl) rfl ?_
  refine s_aload_n (i := 0) dX12_aLaw_16 rfl rfl ?_
  refine s_getR hX h0 flX12_7 rfl dX12_aLaw_17 (fun (g2 : o_is X (o_rf X a0 0) (.inr (0, 3756))) => ?_)
  refine s_sipush dX12_aLaw_20 kS_2507 ?_
  refine s_ialdK g2 ⟨by decide, by decide⟩ kN_2507 dX12_aLaw_23 ?_
  refine s_bipush dX12_aLaw_24 kB_8 ?_
  refine s_icmp_ne (tgt := 36) dX12_aLaw_26 rfl (fun c1 => ?_) (fun c1 => ?_)
  · have h := o_if_f c1 h
    refine s_aload_n (i := 0) dX12_aLaw_36 rfl rfl ?_
    refine s_callVu (C := mX12_ahead) (As := []) (rest := []) (L0 := [some (.ref (o_ad X a0)), none]) hX h0 clX12_163 dX12_aLaw_37 rfl rfl (Nat.le_of_ble_eq_true rfl) (Nat.le_of_ble_eq_true rfl) (dnX12_ahead hX h0 (o_bdp h)) (fun _u μ1 h => ?_)
    refine s_aload_n (i := 0) dX12_aLaw_40 rfl rfl ?_
    refine s_iload_n (i := 1) dX12_aLaw_41 rfl rfl ?_
    refine s_callVz (C := mX12_strikeTo) (As := [.int (2535 + (6 * (μ0.1 (o_rf X a0 0) 2507)))]) (rest := []) (L0 := [some (.ref (o_ad X a0)), some (.int (2535 + (6 * (μ0.1 (o_rf X a0 0) 2507))))]) hX h0 clX12_212 dX12_aLaw_42 rfl rfl (Nat.le_of_ble_eq_true rfl) (Nat.le_of_ble_eq_true rfl) (dnX12_strikeTo hX h0 (o_bdp h)) (fun r1 μ2 zr1 h => ?_)
    refine s_if_eq (tgt := 149) dX12_aLaw_45 rfl (fun c1 => ?_) (fun c1 => ?_)
    · have h := o_if_t c1 h
      refine s_iconst dX12_aLaw_149 kI_0 ?_
      exact s_zreturn rfl (Or.inl rfl) dX12_aLaw_150 ⟨_, rfl, (Or.inl rfl), o_ret h⟩
    · have h := o_if_f c1 h
      refine s_aload_n (i := 0) dX12_aLaw_48 rfl rfl ?_
      refine s_bipush dX12_aLaw_49 kB_8 ?_
      refine s_callVz (C := mX12_isThere) (As := [.int 8]) (rest := []) (L0 := [some (.ref (o_ad X a0)), some (.int 8)]) hX h0 clX12_199 dX12_aLaw_51 rfl rfl (Nat.le_of_ble_eq_true rfl) (Nat.le_of_ble_eq_true rfl) (dnX12_isThere hX h0 (o_bdp h)) (fun r2 μ3 zr2 h => ?_)
      refine s_if_eq (tgt := 70) dX12_aLaw_54 rfl (fun c1 => ?_) (fun c1 => ?_)
      · have h := o_if_t c1 h
        refine s_mask [true, true] (L' := [some (.ref (o_ad X a0)), some (.int (2535 + (6 * (μ0.1 (o_rf X a0 0) 2507))))]) rfl ?_
        exact dnX12_aLaw_j70 hX h0 h
      · have h := o_if_f c1 h
        refine s_aload_n (i := 0) dX12_aLaw_57 rfl rfl ?_
        refine s_iload_n (i := 1) dX12_aLaw_58 rfl rfl ?_
        refine s_iconst dX12_aLaw_59 kI_1 ?_
        refine s_iadd dX12_aLaw_60 ?_
        refine s_iconst dX12_aLaw_61 kI_1 ?_
        refine s_bipush dX12_aLaw_62 kB_99 ?_
        refine s_callVz (C := mX12_number) (As := [.int ((2535 + (6 * (μ0.1 (o_rf X a0 0) 2507))) + 1), .int 1, .int 99]) (rest := []) (L0 := [some (.ref (o_ad X a0)), some (.int ((2535 + (6 * (μ0.1 (o_rf X a0 0) 2507))) + 1)), some (.int 1), some (.int 99)]) hX h0 clX12_202 dX12_aLaw_64 rfl rfl (Nat.le_of_ble_eq_true rfl) (Nat.le_of_ble_eq_true rfl) (dnX12_number hX h0 (o_bdp h)) (fun r3 μ4 zr3 h => ?_)
        refine s_if_eq (tgt := 149) dX12_aLaw_67 rfl (fun c1 => ?_) (fun c1 => ?_)
        · have h := o_if_t c1 h
          refine s_iconst dX12_aLaw_149 kI_0 ?_
          exact s_zreturn rfl (Or.inl rfl) dX12_aLaw_150 ⟨_, rfl, (Or.inl rfl), o_ret h⟩
        · have h := o_if_f c1 h
          refine s_mask [true, true] (L' := [some (.ref (o_ad X a0)), some (.int (2535 + (6 * (μ0.1 (o_rf X a0 0) 2507))))]) rfl ?_
          exact dnX12_aLaw_j70 hX h0 h
  · have h := o_if_t c1 h
    refine s_aload_n (i := 0) dX12_aLaw_29 rfl rfl ?_
    refine s_bipush dX12_aLaw_30 kB_6 ?_
    refine s_callVz (C := mX12_fails) (As := [.int 6]) (rest := []) (L0 := [some (.ref (o_ad X a0)), some (.int 6)]) hX h0 clX12_169 dX12_aLaw_32 rfl rfl (Nat.le_of_ble_eq_true rfl) (Nat.le_of_ble_eq_true rfl) (dnX12_fails hX h0 (o_bdp h)) (fun r4 μ5 zr4 h => ?_)
    exact s_zreturn rfl zr4 dX12_aLaw_35 ⟨_, rfl, zr4, o_ret h⟩
theorem dX12_anAct_0 : decode cX12_anAct 0 = .ok (.sipush 3123, 3) := by decide +kernel
theorem dX12_anAct_3 : decode cX12_anAct 3 = .ok (.istore_n 1, 1) := by decide +kernel
theorem dX12_anAct_4 : decode cX12_anAct 4 = .ok (.aload_n 0, 1) := by decide +kernel
theorem dX12_anAct_5 : decode cX12_anAct 5 = .ok (.invokevirtual 163, 3) := by decide +kernel
theorem dX12_anAct_8 : decode cX12_anAct 8 = .ok (.aload_n 0, 1) := by decide +kernel
theorem dX12_anAct_9 : decode cX12_anAct 9 = .ok (.iload_n 1, 1) := by decide +kernel
theorem dX12_anAct_10 : decode cX12_anAct 10 = .ok (.invokevirtual 193, 3) := by decide +kernel
theorem dX12_anAct_13 : decode cX12_anAct 13 = .ok (.ifCond .eq 75, 3) := by decide +kernel
theorem dX12_anAct_16 : decode cX12_anAct 16 = .ok (.aload_n 0, 1) := by decide +kernel
theorem dX12_anAct_17 : decode cX12_anAct 17 = .ok (.ldc 180, 2) := by decide +kernel
theorem dX12_anAct_19 : decode cX12_anAct 19 = .ok (.bipush 13, 2) := by decide +kernel
theorem dX12_anAct_21 : decode cX12_anAct 21 = .ok (.invokevirtual 205, 3) := by decide +kernel
theorem dX12_anAct_24 : decode cX12_anAct 24 = .ok (.ifCond .eq 64, 3) := by decide +kernel
theorem dX12_anAct_27 : decode cX12_anAct 27 = .ok (.aload_n 0, 1) := by decide +kernel
theorem dX12_anAct_28 : decode cX12_anAct 28 = .ok (.iload_n 1, 1) := by decide +kernel
theorem dX12_anAct_29 : decode cX12_anAct 29 = .ok (.iconst 1, 1) := by decide +kernel
theorem dX12_anAct_30 : decode cX12_anAct 30 = .ok (.iadd, 1) := by decide +kernel
theorem dX12_anAct_31 : decode cX12_anAct 31 = .ok (.invokevirtual 212, 3) := by decide +kernel
theorem dX12_anAct_34 : decode cX12_anAct 34 = .ok (.ifCond .eq 54, 3) := by decide +kernel
theorem dX12_anAct_37 : decode cX12_anAct 37 = .ok (.aload_n 0, 1) := by decide +kernel
theorem dX12_anAct_38 : decode cX12_anAct 38 = .ok (.ldc 180, 2) := by decide +kernel
theorem dX12_anAct_40 : decode cX12_anAct 40 = .ok (.bipush 12, 2) := by decide +kernel
theorem dX12_anAct_42 : decode cX12_anAct 42 = .ok (.invokevirtual 205, 3) := by decide +kernel
theorem dX12_anAct_45 : decode cX12_anAct 45 = .ok (.ifCond .eq 43, 3) := by decide +kernel
theorem dX12_anAct_48 : decode cX12_anAct 48 = .ok (.aload_n 0, 1) := by decide +kernel
theorem dX12_anAct_49 : decode cX12_anAct 49 = .ok (.iload_n 1, 1) := by decide +kernel
theorem dX12_anAct_50 : decode cX12_anAct 50 = .ok (.iconst 2, 1) := by decide +kernel
theorem dX12_anAct_51 : decode cX12_anAct 51 = .ok (.iadd, 1) := by decide +kernel
theorem dX12_anAct_52 : decode cX12_anAct 52 = .ok (.aload_n 0, 1) := by decide +kernel
theorem dX12_anAct_53 : decode cX12_anAct 53 = .ok (.getfield 7, 3) := by decide +kernel
theorem dX12_anAct_56 : decode cX12_anAct 56 = .ok (.iload_n 1, 1) := by decide +kernel
theorem dX12_anAct_57 : decode cX12_anAct 57 = .ok (.iaload, 1) := by decide +kernel
theorem dX12_anAct_58 : decode cX12_anAct 58 = .ok (.invokevirtual 215, 3) := by decide +kernel
theorem dX12_anAct_61 : decode cX12_anAct 61 = .ok (.ifCond .eq 27, 3) := by decide +kernel
theorem dX12_anAct_64 : decode cX12_anAct 64 = .ok (.aload_n 0, 1) := by decide +kernel
theorem dX12_anAct_65 : decode cX12_anAct 65 = .ok (.ldc 180, 2) := by decide +kernel
theorem dX12_anAct_67 : decode cX12_anAct 67 = .ok (.bipush 14, 2) := by decide +kernel
theorem dX12_anAct_69 : decode cX12_anAct 69 = .ok (.invokevirtual 205, 3) := by decide +kernel
theorem dX12_anAct_72 : decode cX12_anAct 72 = .ok (.ifCond .eq 16, 3) := by decide +kernel
theorem dX12_anAct_75 : decode cX12_anAct 75 = .ok (.aload_n 0, 1) := by decide +kernel
theorem dX12_anAct_76 : decode cX12_anAct 76 = .ok (.iload_n 1, 1) := by decide +kernel
theorem dX12_anAct_77 : decode cX12_anAct 77 = .ok (.iconst 3, 1) := by decide +kernel
theorem dX12_anAct_78 : decode cX12_anAct 78 = .ok (.iadd, 1) := by decide +kernel
theorem dX12_anAct_79 : decode cX12_anAct 79 = .ok (.iconst 1, 1) := by decide +kernel
theorem dX12_anAct_80 : decode cX12_anAct 80 = .ok (.bipush 99, 2) := by decide +kernel
theorem dX12_anAct_82 : decode cX12_anAct 82 = .ok (.invokevirtual 202, 3) := by decide +kernel
theorem dX12_anAct_85 : decode cX12_anAct 85 = .ok (.ifCond .ne 5, 3) := by decide +kernel
theorem dX12_anAct_88 : decode cX12_anAct 88 = .ok (.iconst 0, 1) := by decide +kernel
theorem dX12_anAct_89 : decode cX12_anAct 89 = .ok (.ireturn, 1) := by decide +kernel
theorem dX12_anAct_90 : decode cX12_anAct 90 = .ok (.sipush 2583, 3) := by decide +kernel
theorem dX12_anAct_93 : decode cX12_anAct 93 = .ok (.iconst 2, 1) := by decide +kernel
theorem dX12_anAct_94 : decode cX12_anAct 94 = .ok (.bipush 6, 2) := by decide +kernel
theorem dX12_anAct_96 : decode cX12_anAct 96 = .ok (.aload_n 0, 1) := by decide +kernel
theorem dX12_anAct_97 : decode cX12_anAct 97 = .ok (.getfield 7, 3) := by decide +kernel
theorem dX12_anAct_100 : decode cX12_anAct 100 = .ok (.iload_n 1, 1) := by decide +kernel
theorem dX12_anAct_101 : decode cX12_anAct 101 = .ok (.iaload, 1) := by decide +kernel
theorem dX12_anAct_102 : decode cX12_anAct 102 = .ok (.imul, 1) := by decide +kernel
theorem dX12_anAct_103 : decode cX12_anAct 103 = .ok (.aload_n 0, 1) := by decide +kernel
theorem dX12_anAct_104 : decode cX12_anAct 104 = .ok (.getfield 7, 3) := by decide +kernel
theorem dX12_anAct_107 : decode cX12_anAct 107 = .ok (.iload_n 1, 1) := by decide +kernel
theorem dX12_anAct_108 : decode cX12_anAct 108 = .ok (.iconst 1, 1) := by decide +kernel
theorem dX12_anAct_109 : decode cX12_anAct 109 = .ok (.iadd, 1) := by decide +kernel
theorem dX12_anAct_110 : decode cX12_anAct 110 = .ok (.iaload, 1) := by decide +kernel
theorem dX12_anAct_111 : decode cX12_anAct 111 = .ok (.iadd, 1) := by decide +kernel
theorem dX12_anAct_112 : decode cX12_anAct 112 = .ok (.imul, 1) := by decide +kernel
theorem dX12_anAct_113 : decode cX12_anAct 113 = .ok (.iadd, 1) := by decide +kernel
theorem dX12_anAct_114 : decode cX12_anAct 114 = .ok (.istore_n 2, 1) := by decide +kernel
theorem dX12_anAct_115 : decode cX12_anAct 115 = .ok (.aload_n 0, 1) := by decide +kernel
theorem dX12_anAct_116 : decode cX12_anAct 116 = .ok (.getfield 7, 3) := by decide +kernel
theorem dX12_anAct_119 : decode cX12_anAct 119 = .ok (.iload_n 2, 1) := by decide +kernel
theorem dX12_anAct_120 : decode cX12_anAct 120 = .ok (.aload_n 0, 1) := by decide +kernel
theorem dX12_anAct_121 : decode cX12_anAct 121 = .ok (.getfield 7, 3) := by decide +kernel
theorem dX12_anAct_124 : decode cX12_anAct 124 = .ok (.iload_n 1, 1) := by decide +kernel
theorem dX12_anAct_125 : decode cX12_anAct 125 = .ok (.iconst 2, 1) := by decide +kernel
theorem dX12_anAct_126 : decode cX12_anAct 126 = .ok (.iadd, 1) := by decide +kernel
theorem dX12_anAct_127 : decode cX12_anAct 127 = .ok (.iaload, 1) := by decide +kernel
theorem dX12_anAct_128 : decode cX12_anAct 128 = .ok (.iastore, 1) := by decide +kernel
theorem dX12_anAct_129 : decode cX12_anAct 129 = .ok (.aload_n 0, 1) := by decide +kernel
theorem dX12_anAct_130 : decode cX12_anAct 130 = .ok (.getfield 7, 3) := by decide +kernel
theorem dX12_anAct_133 : decode cX12_anAct 133 = .ok (.iload_n 2, 1) := by decide +kernel
theorem dX12_anAct_134 : decode cX12_anAct 134 = .ok (.iconst 1, 1) := by decide +kernel
theorem dX12_anAct_135 : decode cX12_anAct 135 = .ok (.iadd, 1) := by decide +kernel
theorem dX12_anAct_136 : decode cX12_anAct 136 = .ok (.aload_n 0, 1) := by decide +kernel
theorem dX12_anAct_137 : decode cX12_anAct 137 = .ok (.getfield 7, 3) := by decide +kernel
theorem dX12_anAct_140 : decode cX12_anAct 140 = .ok (.iload_n 1, 1) := by decide +kernel
theorem dX12_anAct_141 : decode cX12_anAct 141 = .ok (.iconst 3, 1) := by decide +kernel
theorem dX12_anAct_142 : decode cX12_anAct 142 = .ok (.iadd, 1) := by decide +kernel
theorem dX12_anAct_143 : decode cX12_anAct 143 = .ok (.iaload, 1) := by decide +kernel
theorem dX12_anAct_144 : decode cX12_anAct 144 = .ok (.iastore, 1) := by decide +kernel
theorem dX12_anAct_145 : decode cX12_anAct 145 = .ok (.iconst 1, 1) := by decide +kernel
theorem dX12_anAct_146 : decode cX12_anAct 146 = .ok (.ireturn, 1) := by decide +kernel
noncomputable def fX12_anAct (rf : Nat → Nat → Nat) (a0 : Nat) (μ0 : o_Mem) : Option (Int32 × o_Mem) :=
  o_bd (fX12_ahead rf a0 μ0) fun _u μ1 =>
  o_bd (fX12_personTo rf a0 3123 μ1) fun r1 μ2 =>
  if r1 = 0 then (
    some (0, μ2))
  else (
    o_bd (fX12_wantWord rf a0 13 μ2) fun r2 μ3 =>
    if r2 = 0 then (
      some (0, μ3))
    else (
      o_bd (fX12_strikeTo rf a0 ((3123 + 1) : Int32) μ3) fun r3 μ4 =>
      if r3 = 0 then (
        some (0, μ4))
      else (
        o_bd (fX12_wantWord rf a0 12 μ4) fun r4 μ5 =>
        if r4 = 0 then (
          some (0, μ5))
        else (
          o_bd (fX12_otherTo rf a0 ((3123 + 2) : Int32) (μ5.1 (rf a0 0) 3123) μ5) fun r5 μ6 =>
          if r5 = 0 then (
            some (0, μ6))
          else (
            o_bd (fX12_wantWord rf a0 14 μ6) fun r6 μ7 =>
            if r6 = 0 then (
              some (0, μ7))
            else (
              o_bd (fX12_number rf a0 ((3123 + 3) : Int32) 1 99 μ7) fun r7 μ8 =>
              if r7 = 0 then (
                some (0, μ8))
              else (
                o_ck (0 ≤ (((3123 + 1) : Int32)).toInt ∧ (((3123 + 1) : Int32)).toInt < 3756) <|
                o_ck (0 ≤ (((3123 + 2) : Int32)).toInt ∧ (((3123 + 2) : Int32)).toInt < 3756) <|
                o_ck (0 ≤ ((2583 + (2 * ((6 * (μ8.1 (rf a0 0) 3123)) + (μ8.1 (rf a0 0) (((3123 + 1) : Int32)).toNatClampNeg))))).toInt ∧ ((2583 + (2 * ((6 * (μ8.1 (rf a0 0) 3123)) + (μ8.1 (rf a0 0) (((3123 + 1) : Int32)).toNatClampNeg))))).toInt < 3756) <|
                o_seq (o_wI μ8 (rf a0 0) (((2583 + (2 * ((6 * (μ8.1 (rf a0 0) 3123)) + (μ8.1 (rf a0 0) (((3123 + 1) : Int32)).toNatClampNeg))))).toNatClampNeg) (μ8.1 (rf a0 0) (((3123 + 2) : Int32)).toNatClampNeg)) fun μ9 =>
                o_ck (0 ≤ (((3123 + 3) : Int32)).toInt ∧ (((3123 + 3) : Int32)).toInt < 3756) <|
                o_ck (0 ≤ (((2583 + (2 * ((6 * (μ8.1 (rf a0 0) 3123)) + (μ8.1 (rf a0 0) (((3123 + 1) : Int32)).toNatClampNeg)))) + 1)).toInt ∧ (((2583 + (2 * ((6 * (μ8.1 (rf a0 0) 3123)) + (μ8.1 (rf a0 0) (((3123 + 1) : Int32)).toNatClampNeg)))) + 1)).toInt < 3756) <|
                o_seq (o_wI μ9 (rf a0 0) ((((2583 + (2 * ((6 * (μ8.1 (rf a0 0) 3123)) + (μ8.1 (rf a0 0) (((3123 + 1) : Int32)).toNatClampNeg)))) + 1)).toNatClampNeg) (μ9.1 (rf a0 0) (((3123 + 3) : Int32)).toNatClampNeg)) fun μ10 =>
                some (1, μ10))))))))
set_option maxRecDepth 20000 in
theorem dnX12_anAct {X : o_Cx} (hX : o_ok X) {d : Nat} {a0 : Nat} {μ0 : o_Mem} {q : Int32 → o_Mem → Prop} (h0 : o_is X a0 (.inl 12)) (h : o_Post (fX12_anAct (o_rf X) a0 μ0) q) : o_Ev X (d + 9) mX12_anAct 0 [some (.ref (o_ad X a0)), none, none] [] μ0 (o_QZ q) := by
  unfold fX12_anAct at h
  refine s_sipush dX12_anAct_0 kS_3123 ?_
  refine s_istore_n (i := 1) dX12_anAct_3 rfl (Nat.le_of_ble_eq_true rfl) rfl ?_
  refine s_aload_n (i := 0) dX12_anAct_4 rfl rfl ?_
  refine s_callVu (C := mX12_ahead) (As := []) (rest := []) (L0 := [some (.ref (o_ad X a0)), none]) hX h0 clX12_163 dX12_anAct_5 rfl rfl (Nat.le_of_ble_eq_true rfl) (Nat.le_of_ble_eq_true rfl) (dnX12_ahead hX h0 (o_bdp h)) (fun _u μ1 h => ?_)
  refine s_aload_n (i := 0) dX12_anAct_8 rfl rfl ?_
  refine s_iload_n (i := 1) dX12_anAct_9 rfl rfl ?_
  refine s_callVz (C := mX12_personTo) (As := [.int 3123]) (rest := []) (L0 := [some (.ref (o_ad X a0)), some (.int 3123)]) hX h0 clX12_193 dX12_anAct_10 rfl rfl (Nat.le_of_ble_eq_true rfl) (Nat.le_of_ble_eq_true rfl) (dnX12_personTo hX h0 (o_bdp h)) (fun r1 μ2 zr1 h => ?_)
  refine s_if_eq (tgt := 88) dX12_anAct_13 rfl (fun c1 => ?_) (fun c1 => ?_)
  · have h := o_if_t c1 h
    refine s_iconst dX12_anAct_88 kI_0 ?_
    exact s_zreturn rfl (Or.inl rfl) dX12_anAct_89 ⟨_, rfl, (Or.inl rfl), o_ret h⟩
  · have h := o_if_f c1 h
    refine s_aload_n (i := 0) dX12_anAct_16 rfl rfl ?_
    refine s_ldcS1 rfl dX12_anAct_17 ?_
    refine s_bipush dX12_anAct_19 kB_13 ?_
    refine s_callVz (C := mX12_wantWord) (As := [.ref (o_aK X 1), .int 13]) (rest := []) (L0 := [some (.ref (o_ad X a0)), some (.ref (o_aK X 1)), some (.int 13)]) hX h0 clX12_205 dX12_anAct_21 rfl rfl (Nat.le_of_ble_eq_true rfl) (Nat.le_of_ble_eq_true rfl) (dnX12_wantWord hX h0 (o_bdp h)) (fun r2 μ3 zr2 h => ?_)
    refine s_if_eq (tgt := 88) dX12_anAct_24 rfl (fun c1 => ?_) (fun c1 => ?_)
    · have h := o_if_t c1 h
      refine s_iconst dX12_anAct_88 kI_0 ?_
      exact s_zreturn rfl (Or.inl rfl) dX12_anAct_89 ⟨_, rfl, (Or.inl rfl), o_ret h⟩
    · have h := o_if_f c1 h
      refine s_aload_n (i := 0) dX12_anAct_27 rfl rfl ?_
      refine s_iload_n (i := 1) dX12_anAct_28 rfl rfl ?_
      refine s_iconst dX12_anAct_29 kI_1 ?_
      refine s_iadd dX12_anAct_30 ?_
      refine s_callVz (C := mX12_strikeTo) (As := [.int ((3123 + 1) : Int32)]) (rest := []) (L0 := [some (.ref (o_ad X a0)), some (.int ((3123 + 1) : Int32))]) hX h0 clX12_212 dX12_anAct_31 rfl rfl (Nat.le_of_ble_eq_true rfl) (Nat.le_of_ble_eq_true rfl) (dnX12_strikeTo hX h0 (o_bdp h)) (fun r3 μ4 zr3 h => ?_)
      refine s_if_eq (tgt := 88) dX12_anAct_34 rfl (fun c1 => ?_) (fun c1 => ?_)
      · have h := o_if_t c1 h
        refine s_iconst dX12_anAct_88 kI_0 ?_
        exact s_zreturn rfl (Or.inl rfl) dX12_anAct_89 ⟨_, rfl, (Or.inl rfl), o_ret h⟩
      · have h := o_if_f c1 h
        refine s_aload_n (i := 0) dX12_anAct_37 rfl rfl ?_
        refine s_ldcS1 rfl dX12_anAct_38 ?_
        refine s_bipush dX12_anAct_40 kB_12 ?_
        refine s_callVz (C := mX12_wantWord) (As := [.ref (o_aK X 1), .int 12]) (rest := []) (L0 := [some (.ref (o_ad X a0)), some (.ref (o_aK X 1)), some (.int 12)]) hX h0 clX12_205 dX12_anAct_42 rfl rfl (Nat.le_of_ble_eq_true rfl) (Nat.le_of_ble_eq_true rfl) (dnX12_wantWord hX h0 (o_bdp h)) (fun r4 μ5 zr4 h => ?_)
        refine s_if_eq (tgt := 88) dX12_anAct_45 rfl (fun c1 => ?_) (fun c1 => ?_)
        · have h := o_if_t c1 h
          refine s_iconst dX12_anAct_88 kI_0 ?_
          exact s_zreturn rfl (Or.inl rfl) dX12_anAct_89 ⟨_, rfl, (Or.inl rfl), o_ret h⟩
        · have h := o_if_f c1 h
          refine s_aload_n (i := 0) dX12_anAct_48 rfl rfl ?_
          refine s_iload_n (i := 1) dX12_anAct_49 rfl rfl ?_
          refine s_iconst dX12_anAct_50 kI_2 ?_
          refine s_iadd dX12_anAct_51 ?_
          refine s_aload_n (i := 0) dX12_anAct_52 rfl rfl ?_
          refine s_getR hX h0 flX12_7 rfl dX12_anAct_53 (fun (g1 : o_is X (o_rf X a0 0) (.inr (0, 3756))) => ?_)
          refine s_iload_n (i := 1) dX12_anAct_56 rfl rfl ?_
          refine s_ialdK g1 ⟨by decide, by decide⟩ kN_3123 dX12_anAct_57 ?_
          refine s_callVz (C := mX12_otherTo) (As := [.int ((3123 + 2) : Int32), .int (μ5.1 (o_rf X a0 0) 3123)]) (rest := []) (L0 := [some (.ref (o_ad X a0)), some (.int ((3123 + 2) : Int32)), some (.int (μ5.1 (o_rf X a0 0) 3123))]) hX h0 clX12_215 dX12_anAct_58 rfl rfl (Nat.le_of_ble_eq_true rfl) (Nat.le_of_ble_eq_true rfl) (dnX12_otherTo hX h0 (o_bdp h)) (fun r5 μ6 zr5 h => ?_)
          refine s_if_eq (tgt := 88) dX12_anAct_61 rfl (fun c1 => ?_) (fun c1 => ?_)
          · have h := o_if_t c1 h
            refine s_iconst dX12_anAct_88 kI_0 ?_
            exact s_zreturn rfl (Or.inl rfl) dX12_anAct_89 ⟨_, rfl, (Or.inl rfl), o_ret h⟩
          · have h := o_if_f c1 h
            refine s_aload_n (i := 0) dX12_anAct_64 rfl rfl ?_
            refine s_ldcS1 rfl dX12_anAct_65 ?_
            refine s_bipush dX12_anAct_67 kB_14 ?_
            refine s_callVz (C := mX12_wantWord) (As := [.ref (o_aK X 1), .int 14]) (rest := []) (L0 := [some (.ref (o_ad X a0)), some (.ref (o_aK X 1)), some (.int 14)]) hX h0 clX12_205 dX12_anAct_69 rfl rfl (Nat.le_of_ble_eq_true rfl) (Nat.le_of_ble_eq_true rfl) (dnX12_wantWord hX h0 (o_bdp h)) (fun r6 μ7 zr6 h => ?_)
            refine s_if_eq (tgt := 88) dX12_anAct_72 rfl (fun c1 => ?_) (fun c1 => ?_)
            · have h := o_if_t c1 h
              refine s_iconst dX12_anAct_88 kI_0 ?_
              exact s_zreturn rfl (Or.inl rfl) dX12_anAct_89 ⟨_, rfl, (Or.inl rfl), o_ret h⟩
            · have h := o_if_f c1 h
              refine s_aload_n (i := 0) dX12_anAct_75 rfl rfl ?_
              refine s_iload_n (i := 1) dX12_anAct_76 rfl rfl ?_
              refine s_iconst dX12_anAct_77 kI_3 ?_
              refine s_iadd dX12_anAct_78 ?_
              refine s_iconst dX12_anAct_79 kI_1 ?_
              refine s_bipush dX12_anAct_80 kB_99 ?_
              refine s_callVz (C := mX12_number) (As := [.int ((3123 + 3) : Int32), .int 1, .int 99]) (rest := []) (L0 := [some (.ref (o_ad X a0)), some (.int ((3123 + 3) : Int32)), some (.int 1), some (.int 99)]) hX h0 clX12_202 dX12_anAct_82 rfl rfl (Nat.le_of_ble_eq_true rfl) (Nat.le_of_ble_eq_true rfl) (dnX12_number hX h0 (o_bdp h)) (fun r7 μ8 zr7 h => ?_)
              refine s_if_ne (tgt := 90) dX12_anAct_85 rfl (fun c1 => ?_) (fun c1 => ?_)
              · have h := o_if_f c1 h
                refine s_sipush dX12_anAct_90 kS_2583 ?_
                refine s_iconst dX12_anAct_93 kI_2 ?_
                refine s_bipush dX12_anAct_94 kB_6 ?_
                refine s_aload_n (i := 0) dX12_anAct_96 rfl rfl ?_
                refine s_getR hX h0 flX12_7 rfl dX12_anAct_97 (fun (g2 : o_is X (o_rf X a0 0) (.inr (0, 3756))) => ?_)
                refine s_iload_n (i := 1) dX12_anAct_100 rfl rfl ?_
                refine s_ialdK g2 ⟨by decide, by decide⟩ kN_3123 dX12_anAct_101 ?_
                refine s_imul dX12_anAct_102 ?_
                refine s_aload_n (i := 0) dX12_anAct_103 rfl rfl ?_
                refine s_getR hX h0 flX12_7 rfl dX12_anAct_104 (fun (g3 : o_is X (o_rf X a0 0) (.inr (0, 3756))) => ?_)
                refine s_iload_n (i := 1) dX12_anAct_107 rfl rfl ?_
                refine s_iconst dX12_anAct_108 kI_1 ?_
                refine s_iadd dX12_anAct_109 ?_
                have hc := o_ck_c h
                have h := o_ck_k h
                refine s_ialdK g3 hc rfl dX12_anAct_110 ?_
                refine s_iadd dX12_anAct_111 ?_
                refine s_imul dX12_anAct_112 ?_
                refine s_iadd dX12_anAct_113 ?_
                refine s_istore_n (i := 2) dX12_anAct_114 rfl (Nat.le_of_ble_eq_true rfl) rfl ?_
                refine s_aload_n (i := 0) dX12_anAct_115 rfl rfl ?_
                refine s_getR hX h0 flX12_7 rfl dX12_anAct_116 (fun (g4 : o_is X (o_rf X a0 0) (.inr (0, 3756))) => ?_)
                refine s_iload_n (i := 2) dX12_anAct_119 rfl rfl ?_
                refine s_aload_n (i := 0) dX12_anAct_120 rfl rfl ?_
                refine s_getR hX h0 flX12_7 rfl dX12_anAct_121 (fun (g5 : o_is X (o_rf X a0 0) (.inr (0, 3756))) => ?_)
                refine s_iload_n (i := 1) dX12_anAct_124 rfl rfl ?_
                refine s_iconst dX12_anAct_125 kI_2 ?_
                refine s_iadd dX12_anAct_126 ?_
                have hc := o_ck_c h
                have h := o_ck_k h
                refine s_ialdK g5 hc rfl dX12_anAct_127 ?_
                have hc := o_ck_c h
                have h := o_ck_k h
                refine s_iastK hX g4 hc rfl dX12_anAct_128 (o_gen h (fun μ9 h => ?_))
                refine s_aload_n (i := 0) dX12_anAct_129 rfl rfl ?_
                refine s_getR hX h0 flX12_7 rfl dX12_anAct_130 (fun (g6 : o_is X (o_rf X a0 0) (.inr (0, 3756))) => ?_)
                refine s_iload_n (i := 2) dX12_anAct_133 rfl rfl ?_
                refine s_iconst dX12_anAct_134 kI_1 ?_
                refine s_iadd dX12_anAct_135 ?_
                refine s_aload_n (i := 0) dX12_anAct_136 rfl rfl ?_
                refine s_getR hX h0 flX12_7 rfl dX12_anAct_137 (fun (g7 : o_is X (o_rf X a0 0) (.inr (0, 3756))) => ?_)
                refine s_iload_n (i := 1) dX12_anAct_140 rfl rfl ?_
                refine s_iconst dX12_anAct_141 kI_3 ?_
                refine s_iadd dX12_anAct_142 ?_
                have hc := o_ck_c h
                have h := o_ck_k h
                refine s_ialdK g7 hc rfl dX12_anAct_143 ?_
                have hc := o_ck_c h
                have h := o_ck_k h
                refine s_iastK hX g6 hc rfl dX12_anAct_144 (o_gen h (fun μ10 h => ?_))
                refine s_iconst dX12_anAct_145 kI_1 ?_
                exact s_zreturn rfl (Or.inr rfl) dX12_anAct_146 ⟨_, rfl, (Or.inr rfl), o_ret h⟩
              · have h := o_if_t c1 h
                refine s_iconst dX12_anAct_88 kI_0 ?_
                exact s_zreturn rfl (Or.inl rfl) dX12_anAct_89 ⟨_, rfl, (Or.inl rfl), o_ret h⟩
theorem dX12_aLetter_0 : decode cX12_aLetter 0 = .ok (.sipush 2655, 3) := by decide +kernel
theorem dX12_aLetter_3 : decode cX12_aLetter 3 = .ok (.iconst 4, 1) := by decide +kernel
theorem dX12_aLetter_4 : decode cX12_aLetter 4 = .ok (.aload_n 0, 1) := by decide +kernel
theorem dX12_aLetter_5 : decode cX12_aLetter 5 = .ok (.getfield 7, 3) := by decide +kernel
theorem dX12_aLetter_8 : decode cX12_aLetter 8 = .ok (.sipush 2508, 3) := by decide +kernel
theorem dX12_aLetter_11 : decode cX12_aLetter 11 = .ok (.iaload, 1) := by decide +kernel
theorem dX12_aLetter_12 : decode cX12_aLetter 12 = .ok (.imul, 1) := by decide +kernel
theorem dX12_aLetter_13 : decode cX12_aLetter 13 = .ok (.iadd, 1) := by decide +kernel
theorem dX12_aLetter_14 : decode cX12_aLetter 14 = .ok (.istore_n 1, 1) := by decide +kernel
theorem dX12_aLetter_15 : decode cX12_aLetter 15 = .ok (.aload_n 0, 1) := by decide +kernel
theorem dX12_aLetter_16 : decode cX12_aLetter 16 = .ok (.getfield 7, 3) := by decide +kernel
theorem dX12_aLetter_19 : decode cX12_aLetter 19 = .ok (.sipush 2508, 3) := by decide +kernel
theorem dX12_aLetter_22 : decode cX12_aLetter 22 = .ok (.iaload, 1) := by decide +kernel
theorem dX12_aLetter_23 : decode cX12_aLetter 23 = .ok (.bipush 12, 2) := by decide +kernel
theorem dX12_aLetter_25 : decode cX12_aLetter 25 = .ok (.if_icmp .ne 10, 3) := by decide +kernel
theorem dX12_aLetter_28 : decode cX12_aLetter 28 = .ok (.aload_n 0, 1) := by decide +kernel
theorem dX12_aLetter_29 : decode cX12_aLetter 29 = .ok (.bipush 6, 2) := by decide +kernel
theorem dX12_aLetter_31 : decode cX12_aLetter 31 = .ok (.invokevirtual 169, 3) := by decide +kernel
theorem dX12_aLetter_34 : decode cX12_aLetter 34 = .ok (.ireturn, 1) := by decide +kernel
theorem dX12_aLetter_35 : decode cX12_aLetter 35 = .ok (.aload_n 0, 1) := by decide +kernel
theorem dX12_aLetter_36 : decode cX12_aLetter 36 = .ok (.invokevirtual 163, 3) := by decide +kernel
theorem dX12_aLetter_39 : decode cX12_aLetter 39 = .ok (.aload_n 0, 1) := by decide +kernel
theorem dX12_aLetter_40 : decode cX12_aLetter 40 = .ok (.iload_n 1, 1) := by decide +kernel
theorem dX12_aLetter_41 : decode cX12_aLetter 41 = .ok (.invokevirtual 193, 3) := by decide +kernel
theorem dX12_aLetter_44 : decode cX12_aLetter 44 = .ok (.ifCond .eq 43, 3) := by decide +kernel
theorem dX12_aLetter_47 : decode cX12_aLetter 47 = .ok (.aload_n 0, 1) := by decide +kernel
theorem dX12_aLetter_48 : decode cX12_aLetter 48 = .ok (.iload_n 1, 1) := by decide +kernel
theorem dX12_aLetter_49 : decode cX12_aLetter 49 = .ok (.iconst 1, 1) := by decide +kernel
theorem dX12_aLetter_50 : decode cX12_aLetter 50 = .ok (.iadd, 1) := by decide +kernel
theorem dX12_aLetter_51 : decode cX12_aLetter 51 = .ok (.aload_n 0, 1) := by decide +kernel
theorem dX12_aLetter_52 : decode cX12_aLetter 52 = .ok (.getfield 7, 3) := by decide +kernel
theorem dX12_aLetter_55 : decode cX12_aLetter 55 = .ok (.iload_n 1, 1) := by decide +kernel
theorem dX12_aLetter_56 : decode cX12_aLetter 56 = .ok (.iaload, 1) := by decide +kernel
theorem dX12_aLetter_57 : decode cX12_aLetter 57 = .ok (.invokevirtual 215, 3) := by decide +kernel
theorem dX12_aLetter_60 : decode cX12_aLetter 60 = .ok (.ifCond .eq 27, 3) := by decide +kernel
theorem dX12_aLetter_63 : decode cX12_aLetter 63 = .ok (.aload_n 0, 1) := by decide +kernel
theorem dX12_aLetter_64 : decode cX12_aLetter 64 = .ok (.ldc 180, 2) := by decide +kernel
theorem dX12_aLetter_66 : decode cX12_aLetter 66 = .ok (.bipush 14, 2) := by decide +kernel
theorem dX12_aLetter_68 : decode cX12_aLetter 68 = .ok (.invokevirtual 205, 3) := by decide +kernel
theorem dX12_aLetter_71 : decode cX12_aLetter 71 = .ok (.ifCond .eq 16, 3) := by decide +kernel
theorem dX12_aLetter_74 : decode cX12_aLetter 74 = .ok (.aload_n 0, 1) := by decide +kernel
theorem dX12_aLetter_75 : decode cX12_aLetter 75 = .ok (.iload_n 1, 1) := by decide +kernel
theorem dX12_aLetter_76 : decode cX12_aLetter 76 = .ok (.iconst 2, 1) := by decide +kernel
theorem dX12_aLetter_77 : decode cX12_aLetter 77 = .ok (.iadd, 1) := by decide +kernel
theorem dX12_aLetter_78 : decode cX12_aLetter 78 = .ok (.iconst 1, 1) := by decide +kernel
theorem dX12_aLetter_79 : decode cX12_aLetter 79 = .ok (.bipush 99, 2) := by decide +kernel
theorem dX12_aLetter_81 : decode cX12_aLetter 81 = .ok (.invokevirtual 202, 3) := by decide +kernel
theorem dX12_aLetter_84 : decode cX12_aLetter 84 = .ok (.ifCond .ne 5, 3) := by decide +kernel
theorem dX12_aLetter_87 : decode cX12_aLetter 87 = .ok (.iconst 0, 1) := by decide +kernel
theorem dX12_aLetter_88 : decode cX12_aLetter 88 = .ok (.ireturn, 1) := by decide +kernel
theorem dX12_aLetter_89 : decode cX12_aLetter 89 = .ok (.aload_n 0, 1) := by decide +kernel
theorem dX12_aLetter_90 : decode cX12_aLetter 90 = .ok (.getfield 7, 3) := by decide +kernel
theorem dX12_aLetter_93 : decode cX12_aLetter 93 = .ok (.iload_n 1, 1) := by decide +kernel
theorem dX12_aLetter_94 : decode cX12_aLetter 94 = .ok (.iconst 3, 1) := by decide +kernel
theorem dX12_aLetter_95 : decode cX12_aLetter 95 = .ok (.iadd, 1) := by decide +kernel
theorem dX12_aLetter_96 : decode cX12_aLetter 96 = .ok (.aload_n 0, 1) := by decide +kernel
theorem dX12_aLetter_97 : decode cX12_aLetter 97 = .ok (.getfield 7, 3) := by decide +kernel
theorem dX12_aLetter_100 : decode cX12_aLetter 100 = .ok (.sipush 2529, 3) := by decide +kernel
theorem dX12_aLetter_103 : decode cX12_aLetter 103 = .ok (.aload_n 0, 1) := by decide +kernel
theorem dX12_aLetter_104 : decode cX12_aLetter 104 = .ok (.getfield 7, 3) := by decide +kernel
theorem dX12_aLetter_107 : decode cX12_aLetter 107 = .ok (.iload_n 1, 1) := by decide +kernel
theorem dX12_aLetter_108 : decode cX12_aLetter 108 = .ok (.iaload, 1) := by decide +kernel
theorem dX12_aLetter_109 : decode cX12_aLetter 109 = .ok (.iadd, 1) := by decide +kernel
theorem dX12_aLetter_110 : decode cX12_aLetter 110 = .ok (.iaload, 1) := by decide +kernel
theorem dX12_aLetter_111 : decode cX12_aLetter 111 = .ok (.iastore, 1) := by decide +kernel
theorem dX12_aLetter_112 : decode cX12_aLetter 112 = .ok (.aload_n 0, 1) := by decide +kernel
theorem dX12_aLetter_113 : decode cX12_aLetter 113 = .ok (.bipush 10, 2) := by decide +kernel
theorem dX12_aLetter_115 : decode cX12_aLetter 115 = .ok (.invokevirtual 199, 3) := by decide +kernel
theorem dX12_aLetter_118 : decode cX12_aLetter 118 = .ok (.ifCond .eq 15, 3) := by decide +kernel
theorem dX12_aLetter_121 : decode cX12_aLetter 121 = .ok (.aload_n 0, 1) := by decide +kernel
theorem dX12_aLetter_122 : decode cX12_aLetter 122 = .ok (.iload_n 1, 1) := by decide +kernel
theorem dX12_aLetter_123 : decode cX12_aLetter 123 = .ok (.iconst 3, 1) := by decide +kernel
theorem dX12_aLetter_124 : decode cX12_aLetter 124 = .ok (.iadd, 1) := by decide +kernel
theorem dX12_aLetter_125 : decode cX12_aLetter 125 = .ok (.invokevirtual 209, 3) := by decide +kernel
theorem dX12_aLetter_128 : decode cX12_aLetter 128 = .ok (.ifCond .ne 5, 3) := by decide +kernel
theorem dX12_aLetter_131 : decode cX12_aLetter 131 = .ok (.iconst 0, 1) := by decide +kernel
theorem dX12_aLetter_132 : decode cX12_aLetter 132 = .ok (.ireturn, 1) := by decide +kernel
theorem dX12_aLetter_133 : decode cX12_aLetter 133 = .ok (.aload_n 0, 1) := by decide +kernel
theorem dX12_aLetter_134 : decode cX12_aLetter 134 = .ok (.getfield 7, 3) := by decide +kernel
theorem dX12_aLetter_137 : decode cX12_aLetter 137 = .ok (.sipush 2508, 3) := by decide +kernel
theorem dX12_aLetter_140 : decode cX12_aLetter 140 = .ok (.dup2, 1) := by decide +kernel
theorem dX12_aLetter_141 : decode cX12_aLetter 141 = .ok (.iaload, 1) := by decide +kernel
theorem dX12_aLetter_142 : decode cX12_aLetter 142 = .ok (.iconst 1, 1) := by decide +kernel
theorem dX12_aLetter_143 : decode cX12_aLetter 143 = .ok (.iadd, 1) := by decide +kernel
theorem dX12_aLetter_144 : decode cX12_aLetter 144 = .ok (.iastore, 1) := by decide +kernel
theorem dX12_aLetter_145 : decode cX12_aLetter 145 = .ok (.iconst 1, 1) := by decide +kernel
theorem dX12_aLetter_146 : decode cX12_aLetter 146 = .ok (.ireturn, 1) := by decide +kernel
noncomputable def fX12_aLetter_j133 (rf : Nat → Nat → Nat) (a0 : Nat) (μ0 : o_Mem) : Option (Int32 × o_Mem) :=
  o_seq (o_wI μ0 (rf a0 0) 2508 ((μ0.1 (rf a0 0) 2508) + 1)) fun μ1 =>
  some (1, μ1)
noncomputable def fX12_aLetter (rf : Nat → Nat → Nat) (a0 : Nat) (μ0 : o_Mem) : Option (Int32 × o_Mem) :=
  if (μ0.1 (rf a0 0) 2508) = 12 then (
    o_bd (fX12_fails rf a0 6 μ0) fun r7 μ9 =>
    some (r7, μ9))
  else (
    o_bd (fX12_ahead rf a0 μ0) fun _u μ1 =>
    o_bd (fX12_personTo rf a0 (2655 + (4 * (μ0.1 (rf a0 0) 2508))) μ1) fun r1 μ2 =>
    if r1 = 0 then (
      some (0, μ2))
    else (
      o_ck (0 ≤ ((2655 + (4 * (μ0.1 (rf a0 0) 2508)))).toInt ∧ ((2655 + (4 * (μ0.1 (rf a0 0) 2508)))).toInt < 3756) <|
      o_bd (fX12_otherTo rf a0 ((2655 + (4 * (μ0.1 (rf a0 0) 2508))) + 1) (μ2.1 (rf a0 0) ((2655 + (4 * (μ0.1 (rf a0 0) 2508)))).toNatClampNeg) μ2) fun r2 μ3 =>
      if r2 = 0 then (
        some (0, μ3))
      else (
        o_bd (fX12_wantWord rf a0 14 μ3) fun r3 μ4 =>
        if r3 = 0 then (
          some (0, μ4))
        else (
          o_bd (fX12_number rf a0 ((2655 + (4 * (μ0.1 (rf a0 0) 2508))) + 2) 1 99 μ4) fun r4 μ5 =>
          if r4 = 0 then (
            some (0, μ5))
          else (
            o_ck (0 ≤ ((2655 + (4 * (μ0.1 (rf a0 0) 2508)))).toInt ∧ ((2655 + (4 * (μ0.1 (rf a0 0) 2508)))).toInt < 3756) <|
            o_ck (0 ≤ ((2529 + (μ5.1 (rf a0 0) ((2655 + (4 * (μ0.1 (rf a0 0) 2508)))).toNatClampNeg))).toInt ∧ ((2529 + (μ5.1 (rf a0 0) ((2655 + (4 * (μ0.1 (rf a0 0) 2508)))).toNatClampNeg))).toInt < 3756) <|
            o_ck (0 ≤ (((2655 + (4 * (μ0.1 (rf a0 0) 2508))) + 3)).toInt ∧ (((2655 + (4 * (μ0.1 (rf a0 0) 2508))) + 3)).toInt < 3756) <|
            o_seq (o_wI μ5 (rf a0 0) ((((2655 + (4 * (μ0.1 (rf a0 0) 2508))) + 3)).toNatClampNeg) (μ5.1 (rf a0 0) ((2529 + (μ5.1 (rf a0 0) ((2655 + (4 * (μ0.1 (rf a0 0) 2508)))).toNatClampNeg))).toNatClampNeg)) fun μ6 =>
            o_bd (fX12_isThere rf a0 10 μ6) fun r5 μ7 =>
            if r5 = 0 then (
              fX12_aLetter_j133 rf a0 μ7)
            else (
              o_bd (fX12_handTo rf a0 ((2655 + (4 * (μ0.1 (rf a0 0) 2508))) + 3) μ7) fun r6 μ8 =>
              if r6 = 0 then (
                some (0, μ8))
              else (
                fX12_aLetter_j133 rf a0 μ8)))))))
set_option maxRecDepth 20000 in
theorem dnX12_aLetter_j133 {X : o_Cx} (hX : o_ok X) {d : Nat} {a0 : Nat} {μ0 : o_Mem} {q : Int32 → o_Mem → Prop} (h0 : o_is X a0 (.inl 12)) (h : o_Post (fX12_aLetter_j133 (o_rf X) a0 μ0) q) : o_Ev X (d + 9) mX12_aLetter 133 [some (.ref (o_ad X a0)), none] [] μ0 (o_QZ q) := by
  unfold fX12_aLetter_j133 at h
  refine s_aload_n (i := 0) dX12_aLetter_133 rfl rfl ?_
  refine s_getR hX h0 flX12_7 rfl dX12_aLetter_134 (fun (g1 : o_is X (o_rf X a0 0) (.inr (0, 3756))) => ?_)
  refine s_sipush dX12_aLetter_137 kS_2508 ?_
  refine s_dup2 dX12_aLetter_140 rfl rfl ?_
  refine s_ialdK g1 ⟨by decide, by decide⟩ kN_2508 dX12_aLetter_141 ?_
  refine s_iconst dX12_aLetter_142 kI_1 ?_
  refine s_iadd dX12_aLetter_143 ?_
  refine s_iastK hX g1 ⟨by decide, by decide⟩ kN_2508 dX12_aLetter_144 (o_gen h (fun μ1 h => ?_))
  refine s_iconst dX12_aLetter_145 kI_1 ?_
  exact s_zreturn rfl (Or.inr rfl) dX12_aLetter_146 ⟨_, rfl, (Or.inr rfl), o_ret h⟩
set_option maxRecDepth 20000 in
theorem dnX12_aLetter {X : o_Cx} (hX : o_ok X) {d : Nat} {a0 : Nat} {μ0 : o_Mem} {q : Int32 → o_Mem → Prop} (h0 : o_is X a0 (.inl 12)) (h : o_Post (fX12_aLetter (o_rf X) a0 μ0) q) : o_Ev X (d + 9) mX12_aLetter 0 [some (.ref (o_ad X a0)), none] [] μ0 (o_QZ q) := by
  unfold fX12_aLetter at h
  refine s_sipush dX12_aLetter_0 kS_2655 ?_
  refine s_iconst dX12_aLetter_3 kI_4 ?_
  refine s_aload_n (i := 0) dX12_aLetter_4 rfl rfl ?_
  refine s_getR hX h0 flX12_7 rfl dX12_aLetter_5 (fun (g1 : o_is X (o_rf X a0 0) (.inr (0, 3756))) => ?_)
  refine s_sipush dX12_aLetter_8 kS_2508 ?_
  refine s_ialdK g1 ⟨by decide, by decide⟩ kN_2508 dX12_aLetter_11 ?_
  refine s_imul dX12_aLetter_12 ?_
  refine s_iadd dX12_aLetter_13 ?_
  refine s_istore_n (i := 1) dX12_aLetter_14 rfl (Nat.le_of_ble_eq_true rfl) rfl ?_
  refine s_aload_n (i := 0) dX12_aLetter_15 rfl rfl ?_
  refine s_getR hX h0 flX12_7 rfl dX12_aLetter_16 (fun (g2 : o_is X (o_rf X a0 0) (.inr (0, 3756))) => ?_)
  refine s_sipush dX12_aLetter_19 kS_2508 ?_
  refine s_ialdK g2 ⟨by decide, by decide⟩ kN_2508 dX12_aLetter_22 ?_
  refine s_bipush dX12_aLetter_23 kB_12 ?_
  refine s_icmp_ne (tgt := 35) dX12_aLetter_25 rfl (fun c1 => ?_) (fun c1 => ?_)
  · have h := o_if_f c1 h
    refine s_aload_n (i := 0) dX12_aLetter_35 rfl rfl ?_
    refine s_callVu (C := mX12_ahead) (As := []) (rest := []) (L0 := [some (.ref (o_ad X a0)), none]) hX h0 clX12_163 dX12_aLetter_36 rfl rfl (Nat.le_of_ble_eq_true rfl) (Nat.le_of_ble_eq_true rfl) (dnX12_ahead hX h0 (o_bdp h)) (fun _u μ1 h => ?_)
    refine s_aload_n (i := 0) dX12_aLetter_39 rfl rfl ?_
    refine s_iload_n (i := 1) dX12_aLetter_40 rfl rfl ?_
    refine s_callVz (C := mX12_personTo) (As := [.int (2655 + (4 * (μ0.1 (o_rf X a0 0) 2508)))]) (rest := []) (L0 := [some (.ref (o_ad X a0)), some (.int (2655 + (4 * (μ0.1 (o_rf X a0 0) 2508))))]) hX h0 clX12_193 dX12_aLetter_41 rfl rfl (Nat.le_of_ble_eq_true rfl) (Nat.le_of_ble_eq_true rfl) (dnX12_personTo hX h0 (o_bdp h)) (fun r1 μ2 zr1 h => ?_)
    refine s_if_eq (tgt := 87) dX12_aLetter_44 rfl (fun c1 => ?_) (fun c1 => ?_)
    · have h := o_if_t c1 h
      refine s_iconst dX12_aLetter_87 kI_0 ?_
      exact s_zreturn rfl (Or.inl rfl) dX12_aLetter_88 ⟨_, rfl, (Or.inl rfl), o_ret h⟩
    · have h := o_if_f c1 h
      refine s_aload_n (i := 0) dX12_aLetter_47 rfl rfl ?_
      refine s_iload_n (i := 1) dX12_aLetter_48 rfl rfl ?_
      refine s_iconst dX12_aLetter_49 kI_1 ?_
      refine s_iadd dX12_aLetter_50 ?_
      refine s_aload_n (i := 0) dX12_aLetter_51 rfl rfl ?_
      refine s_getR hX h0 flX12_7 rfl dX12_aLetter_52 (fun (g3 : o_is X (o_rf X a0 0) (.inr (0, 3756))) => ?_)
      refine s_iload_n (i := 1) dX12_aLetter_55 rfl rfl ?_
      have hc := o_ck_c h
      have h := o_ck_k h
      refine s_ialdK g3 hc rfl dX12_aLetter_56 ?_
      refine s_callVz (C := mX12_otherTo) (As := [.int ((2655 + (4 * (μ0.1 (o_rf X a0 0) 2508))) + 1), .int (μ2.1 (o_rf X a0 0) ((2655 + (4 * (μ0.1 (o_rf X a0 0) 2508)))).toNatClampNeg)]) (rest := []) (L0 := [some (.ref (o_ad X a0)), some (.int ((2655 + (4 * (μ0.1 (o_rf X a0 0) 2508))) + 1)), some (.int (μ2.1 (o_rf X a0 0) ((2655 + (4 * (μ0.1 (o_rf X a0 0) 2508)))).toNatClampNeg))]) hX h0 clX12_215 dX12_aLetter_57 rfl rfl (Nat.le_of_ble_eq_true rfl) (Nat.le_of_ble_eq_true rfl) (dnX12_otherTo hX h0 (o_bdp h)) (fun r2 μ3 zr2 h => ?_)
      refine s_if_eq (tgt := 87) dX12_aLetter_60 rfl (fun c1 => ?_) (fun c1 => ?_)
      · have h := o_if_t c1 h
        refine s_iconst dX12_aLetter_87 kI_0 ?_
        exact s_zreturn rfl (Or.inl rfl) dX12_aLetter_88 ⟨_, rfl, (Or.inl rfl), o_ret h⟩
      · have h := o_if_f c1 h
        refine s_aload_n (i := 0) dX12_aLetter_63 rfl rfl ?_
        refine s_ldcS1 rfl dX12_aLetter_64 ?_
        refine s_bipush dX12_aLetter_66 kB_14 ?_
        refine s_callVz (C := mX12_wantWord) (As := [.ref (o_aK X 1), .int 14]) (rest := []) (L0 := [some (.ref (o_ad X a0)), some (.ref (o_aK X 1)), some (.int 14)]) hX h0 clX12_205 dX12_aLetter_68 rfl rfl (Nat.le_of_ble_eq_true rfl) (Nat.le_of_ble_eq_true rfl) (dnX12_wantWord hX h0 (o_bdp h)) (fun r3 μ4 zr3 h => ?_)
        refine s_if_eq (tgt := 87) dX12_aLetter_71 rfl (fun c1 => ?_) (fun c1 => ?_)
        · have h := o_if_t c1 h
          refine s_iconst dX12_aLetter_87 kI_0 ?_
          exact s_zreturn rfl (Or.inl rfl) dX12_aLetter_88 ⟨_, rfl, (Or.inl rfl), o_ret h⟩
        · have h := o_if_f c1 h
          refine s_aload_n (i := 0) dX12_aLetter_74 rfl rfl ?_
          refine s_iload_n (i := 1) dX12_aLetter_75 rfl rfl ?_
          refine s_iconst dX12_aLetter_76 kI_2 ?_
          refine s_iadd dX12_aLetter_77 ?_
          refine s_iconst dX12_aLetter_78 kI_1 ?_
          refine s_bipush dX12_aLetter_79 kB_99 ?_
          refine s_callVz (C := mX12_number) (As := [.int ((2655 + (4 * (μ0.1 (o_rf X a0 0) 2508))) + 2), .int 1, .int 99]) (rest := []) (L0 := [some (.ref (o_ad X a0)), some (.int ((2655 + (4 * (μ0.1 (o_rf X a0 0) 2508))) + 2)), some (.int 1), some (.int 99)]) hX h0 clX12_202 dX12_aLetter_81 rfl rfl (Nat.le_of_ble_eq_true rfl) (Nat.le_of_ble_eq_true rfl) (dnX12_number hX h0 (o_bdp h)) (fun r4 μ5 zr4 h => ?_)
          refine s_if_ne (tgt := 89) dX12_aLetter_84 rfl (fun c1 => ?_) (fun c1 => ?_)
          · have h := o_if_f c1 h
            refine s_aload_n (i := 0) dX12_aLetter_89 rfl rfl ?_
            refine s_getR hX h0 flX12_7 rfl dX12_aLetter_90 (fun (g4 : o_is X (o_rf X a0 0) (.inr (0, 3756))) => ?_)
            refine s_iload_n (i := 1) dX12_aLetter_93 rfl rfl ?_
            refine s_iconst dX12_aLetter_94 kI_3 ?_
            refine s_iadd dX12_aLetter_95 ?_
            refine s_aload_n (i := 0) dX12_aLetter_96 rfl rfl ?_
            refine s_getR hX h0 flX12_7 rfl dX12_aLetter_97 (fun (g5 : o_is X (o_rf X a0 0) (.inr (0, 3756))) => ?_)
            refine s_sipush dX12_aLetter_100 kS_2529 ?_
            refine s_aload_n (i := 0) dX12_aLetter_103 rfl rfl ?_
            refine s_getR hX h0 flX12_7 rfl dX12_aLetter_104 (fun (g6 : o_is X (o_rf X a0 0) (.inr (0, 3756))) => ?_)
            refine s_iload_n (i := 1) dX12_aLetter_107 rfl rfl ?_
            have hc := o_ck_c h
            have h := o_ck_k h
            refine s_ialdK g6 hc rfl dX12_aLetter_108 ?_
            refine s_iadd dX12_aLetter_109 ?_
            have hc := o_ck_c h
            have h := o_ck_k h
            refine s_ialdK g5 hc rfl dX12_aLetter_110 ?_
            have hc := o_ck_c h
            have h := o_ck_k h
            refine s_iastK hX g4 hc rfl dX12_aLetter_111 (o_gen h (fun μ6 h => ?_))
            refine s_aload_n (i := 0) dX12_aLetter_112 rfl rfl ?_
            refine s_bipush dX12_aLetter_113 kB_10 ?_
            refine s_callVz (C := mX12_isThere) (As := [.int 10]) (rest := []) (L0 := [some (.ref (o_ad X a0)), some (.int 10)]) hX h0 clX12_199 dX12_aLetter_115 rfl rfl (Nat.le_of_ble_eq_true rfl) (Nat.le_of_ble_eq_true rfl) (dnX12_isThere hX h0 (o_bdp h)) (fun r5 μ7 zr5 h => ?_)
            refine s_if_eq (tgt := 133) dX12_aLetter_118 rfl (fun c1 => ?_) (fun c1 => ?_)
            · have h := o_if_t c1 h
              refine s_mask [true, false] (L' := [some (.ref (o_ad X a0)), none]) rfl ?_
              exact dnX12_aLetter_j133 hX h0 h
            · have h := o_if_f c1 h
              refine s_aload_n (i := 0) dX12_aLetter_121 rfl rfl ?_
              refine s_iload_n (i := 1) dX12_aLetter_122 rfl rfl ?_
              refine s_iconst dX12_aLetter_123 kI_3 ?_
              refine s_iadd dX12_aLetter_124 ?_
              refine s_callVz (C := mX12_handTo) (As := [.int ((2655 + (4 * (μ0.1 (o_rf X a0 0) 2508))) + 3)]) (rest := []) (L0 := [some (.ref (o_ad X a0)), some (.int ((2655 + (4 * (μ0.1 (o_rf X a0 0) 2508))) + 3))]) hX h0 clX12_209 dX12_aLetter_125 rfl rfl (Nat.le_of_ble_eq_true rfl) (Nat.le_of_ble_eq_true rfl) (dnX12_handTo hX h0 (o_bdp h)) (fun r6 μ8 zr6 h => ?_)
              refine s_if_ne (tgt := 133) dX12_aLetter_128 rfl (fun c1 => ?_) (fun c1 => ?_)
              · have h := o_if_f c1 h
                refine s_mask [true, false] (L' := [some (.ref (o_ad X a0)), none]) rfl ?_
                exact dnX12_aLetter_j133 hX h0 h
              · have h := o_if_t c1 h
                refine s_iconst dX12_aLetter_131 kI_0 ?_
                exact s_zreturn rfl (Or.inl rfl) dX12_aLetter_132 ⟨_, rfl, (Or.inl rfl), o_ret h⟩
          · have h := o_if_t c1 h
            refine s_iconst dX12_aLetter_87 kI_0 ?_
            exact s_zreturn rfl (Or.inl rfl) dX12_aLetter_88 ⟨_, rfl, (Or.inl rfl), o_ret h⟩
  · have h := o_if_t c1 h
    refine s_aload_n (i := 0) dX12_aLetter_28 rfl rfl ?_
    refine s_bipush dX12_aLetter_29 kB_6 ?_
    refine s_callVz (C := mX12_fails) (As := [.int 6]) (rest := []) (L0 := [some (.ref (o_ad X a0)), some (.int 6)]) hX h0 clX12_169 dX12_aLetter_31 rfl rfl (Nat.le_of_ble_eq_true rfl) (Nat.le_of_ble_eq_true rfl) (dnX12_fails hX h0 (o_bdp h)) (fun r7 μ9 zr7 h => ?_)
    exact s_zreturn rfl zr7 dX12_aLetter_34 ⟨_, rfl, zr7, o_ret h⟩
theorem dX12_valleyPart_0 : decode cX12_valleyPart 0 = .ok (.aload_n 0, 1) := by decide +kernel
theorem dX12_valleyPart_1 : decode cX12_valleyPart 1 = .ok (.ldc 180, 2) := by decide +kernel
theorem dX12_valleyPart_3 : decode cX12_valleyPart 3 = .ok (.invokevirtual 172, 3) := by decide +kernel
theorem dX12_valleyPart_6 : decode cX12_valleyPart 6 = .ok (.tableswitch 150 0 6 #[42, 50, 82, 90, 98, 106, 114], 42) := by decide +kernel
theorem dX12_valleyPart_48 : decode cX12_valleyPart 48 = .ok (.aload_n 0, 1) := by decide +kernel
theorem dX12_valleyPart_49 : decode cX12_valleyPart 49 = .ok (.invokevirtual 219, 3) := by decide +kernel
theorem dX12_valleyPart_52 : decode cX12_valleyPart 52 = .ok (.istore_n 1, 1) := by decide +kernel
theorem dX12_valleyPart_53 : decode cX12_valleyPart 53 = .ok (.goto 109, 3) := by decide +kernel
theorem dX12_valleyPart_56 : decode cX12_valleyPart 56 = .ok (.aload_n 0, 1) := by decide +kernel
theorem dX12_valleyPart_57 : decode cX12_valleyPart 57 = .ok (.iconst 1, 1) := by decide +kernel
theorem dX12_valleyPart_58 : decode cX12_valleyPart 58 = .ok (.iconst 4, 1) := by decide +kernel
theorem dX12_valleyPart_59 : decode cX12_valleyPart 59 = .ok (.bipush 6, 2) := by decide +kernel
theorem dX12_valleyPart_61 : decode cX12_valleyPart 61 = .ok (.invokevirtual 196, 3) := by decide +kernel
theorem dX12_valleyPart_64 : decode cX12_valleyPart 64 = .ok (.istore_n 1, 1) := by decide +kernel
theorem dX12_valleyPart_65 : decode cX12_valleyPart 65 = .ok (.aload_n 0, 1) := by decide +kernel
theorem dX12_valleyPart_66 : decode cX12_valleyPart 66 = .ok (.getfield 7, 3) := by decide +kernel
theorem dX12_valleyPart_69 : decode cX12_valleyPart 69 = .ok (.sipush 2505, 3) := by decide +kernel
theorem dX12_valleyPart_72 : decode cX12_valleyPart 72 = .ok (.dup2, 1) := by decide +kernel
theorem dX12_valleyPart_73 : decode cX12_valleyPart 73 = .ok (.iaload, 1) := by decide +kernel
theorem dX12_valleyPart_74 : decode cX12_valleyPart 74 = .ok (.iload_n 1, 1) := by decide +kernel
theorem dX12_valleyPart_75 : decode cX12_valleyPart 75 = .ok (.ifCond .eq 7, 3) := by decide +kernel
theorem dX12_valleyPart_78 : decode cX12_valleyPart 78 = .ok (.iconst 1, 1) := by decide +kernel
theorem dX12_valleyPart_79 : decode cX12_valleyPart 79 = .ok (.goto 4, 3) := by decide +kernel
theorem dX12_valleyPart_82 : decode cX12_valleyPart 82 = .ok (.iconst 0, 1) := by decide +kernel
theorem dX12_valleyPart_83 : decode cX12_valleyPart 83 = .ok (.iadd, 1) := by decide +kernel
theorem dX12_valleyPart_84 : decode cX12_valleyPart 84 = .ok (.iastore, 1) := by decide +kernel
theorem dX12_valleyPart_85 : decode cX12_valleyPart 85 = .ok (.goto 77, 3) := by decide +kernel
theorem dX12_valleyPart_88 : decode cX12_valleyPart 88 = .ok (.aload_n 0, 1) := by decide +kernel
theorem dX12_valleyPart_89 : decode cX12_valleyPart 89 = .ok (.invokevirtual 223, 3) := by decide +kernel
theorem dX12_valleyPart_92 : decode cX12_valleyPart 92 = .ok (.istore_n 1, 1) := by decide +kernel
theorem dX12_valleyPart_93 : decode cX12_valleyPart 93 = .ok (.goto 69, 3) := by decide +kernel
theorem dX12_valleyPart_96 : decode cX12_valleyPart 96 = .ok (.aload_n 0, 1) := by decide +kernel
theorem dX12_valleyPart_97 : decode cX12_valleyPart 97 = .ok (.invokevirtual 226, 3) := by decide +kernel
theorem dX12_valleyPart_100 : decode cX12_valleyPart 100 = .ok (.istore_n 1, 1) := by decide +kernel
theorem dX12_valleyPart_101 : decode cX12_valleyPart 101 = .ok (.goto 61, 3) := by decide +kernel
theorem dX12_valleyPart_104 : decode cX12_valleyPart 104 = .ok (.aload_n 0, 1) := by decide +kernel
theorem dX12_valleyPart_105 : decode cX12_valleyPart 105 = .ok (.invokevirtual 229, 3) := by decide +kernel
theorem dX12_valleyPart_108 : decode cX12_valleyPart 108 = .ok (.istore_n 1, 1) := by decide +kernel
theorem dX12_valleyPart_109 : decode cX12_valleyPart 109 = .ok (.goto 53, 3) := by decide +kernel
theorem dX12_valleyPart_112 : decode cX12_valleyPart 112 = .ok (.aload_n 0, 1) := by decide +kernel
theorem dX12_valleyPart_113 : decode cX12_valleyPart 113 = .ok (.invokevirtual 232, 3) := by decide +kernel
theorem dX12_valleyPart_116 : decode cX12_valleyPart 116 = .ok (.istore_n 1, 1) := by decide +kernel
theorem dX12_valleyPart_117 : decode cX12_valleyPart 117 = .ok (.goto 45, 3) := by decide +kernel
theorem dX12_valleyPart_120 : decode cX12_valleyPart 120 = .ok (.aload_n 0, 1) := by decide +kernel
theorem dX12_valleyPart_121 : decode cX12_valleyPart 121 = .ok (.getfield 235, 3) := by decide +kernel
theorem dX12_valleyPart_124 : decode cX12_valleyPart 124 = .ok (.ifCond .eq 9, 3) := by decide +kernel
theorem dX12_valleyPart_127 : decode cX12_valleyPart 127 = .ok (.aload_n 0, 1) := by decide +kernel
theorem dX12_valleyPart_128 : decode cX12_valleyPart 128 = .ok (.iconst 5, 1) := by decide +kernel
theorem dX12_valleyPart_129 : decode cX12_valleyPart 129 = .ok (.invokevirtual 169, 3) := by decide +kernel
theorem dX12_valleyPart_132 : decode cX12_valleyPart 132 = .ok (.ireturn, 1) := by decide +kernel
theorem dX12_valleyPart_133 : decode cX12_valleyPart 133 = .ok (.aload_n 0, 1) := by decide +kernel
theorem dX12_valleyPart_134 : decode cX12_valleyPart 134 = .ok (.iconst 1, 1) := by decide +kernel
theorem dX12_valleyPart_135 : decode cX12_valleyPart 135 = .ok (.putfield 235, 3) := by decide +kernel
theorem dX12_valleyPart_138 : decode cX12_valleyPart 138 = .ok (.aload_n 0, 1) := by decide +kernel
theorem dX12_valleyPart_139 : decode cX12_valleyPart 139 = .ok (.invokevirtual 163, 3) := by decide +kernel
theorem dX12_valleyPart_142 : decode cX12_valleyPart 142 = .ok (.aload_n 0, 1) := by decide +kernel
theorem dX12_valleyPart_143 : decode cX12_valleyPart 143 = .ok (.sipush 2510, 3) := by decide +kernel
theorem dX12_valleyPart_146 : decode cX12_valleyPart 146 = .ok (.iconst 0, 1) := by decide +kernel
theorem dX12_valleyPart_147 : decode cX12_valleyPart 147 = .ok (.bipush 16, 2) := by decide +kernel
theorem dX12_valleyPart_149 : decode cX12_valleyPart 149 = .ok (.invokevirtual 202, 3) := by decide +kernel
theorem dX12_valleyPart_152 : decode cX12_valleyPart 152 = .ok (.istore_n 1, 1) := by decide +kernel
theorem dX12_valleyPart_153 : decode cX12_valleyPart 153 = .ok (.goto 9, 3) := by decide +kernel
theorem dX12_valleyPart_156 : decode cX12_valleyPart 156 = .ok (.aload_n 0, 1) := by decide +kernel
theorem dX12_valleyPart_157 : decode cX12_valleyPart 157 = .ok (.iconst 2, 1) := by decide +kernel
theorem dX12_valleyPart_158 : decode cX12_valleyPart 158 = .ok (.invokevirtual 169, 3) := by decide +kernel
theorem dX12_valleyPart_161 : decode cX12_valleyPart 161 = .ok (.ireturn, 1) := by decide +kernel
theorem dX12_valleyPart_162 : decode cX12_valleyPart 162 = .ok (.iload_n 1, 1) := by decide +kernel
theorem dX12_valleyPart_163 : decode cX12_valleyPart 163 = .ok (.ifCond .eq 16, 3) := by decide +kernel
theorem dX12_valleyPart_166 : decode cX12_valleyPart 166 = .ok (.aload_n 0, 1) := by decide +kernel
theorem dX12_valleyPart_167 : decode cX12_valleyPart 167 = .ok (.bipush 59, 2) := by decide +kernel
theorem dX12_valleyPart_169 : decode cX12_valleyPart 169 = .ok (.invokevirtual 239, 3) := by decide +kernel
theorem dX12_valleyPart_172 : decode cX12_valleyPart 172 = .ok (.ifCond .eq 7, 3) := by decide +kernel
theorem dX12_valleyPart_175 : decode cX12_valleyPart 175 = .ok (.iconst 1, 1) := by decide +kernel
theorem dX12_valleyPart_176 : decode cX12_valleyPart 176 = .ok (.goto 4, 3) := by decide +kernel
theorem dX12_valleyPart_179 : decode cX12_valleyPart 179 = .ok (.iconst 0, 1) := by decide +kernel
theorem dX12_valleyPart_180 : decode cX12_valleyPart 180 = .ok (.ireturn, 1) := by decide +kernel
noncomputable def fX12_valleyPart_j162 (rf : Nat → Nat → Nat) (a0 : Nat) (x1 : Int32) (μ0 : o_Mem) : Option (Int32 × o_Mem) :=
  if x1 = 0 then (
    some (0, μ0))
  else (
    o_bd (fX12_wantSign rf a0 59 μ0) fun r1 μ1 =>
    if r1 = 0 then (
      some (0, μ1))
    else (
      some (1, μ1)))
noncomputable def fX12_valleyPart_j83 (rf : Nat → Nat → Nat) (a0 : Nat) (x1 : Int32) (b0 : Nat) (y1 : Int32) (y2 : Int32) (y3 : Int32) (μ0 : o_Mem) : Option (Int32 × o_Mem) :=
  o_ck (0 ≤ (y1).toInt ∧ (y1).toInt < 3756) <|
  o_seq (o_wI μ0 b0 y1.toNatClampNeg (y2 + y3)) fun μ1 =>
  fX12_valleyPart_j162 rf a0 x1 μ1
noncomputable def fX12_valleyPart (rf : Nat → Nat → Nat) (a0 : Nat) (μ0 : o_Mem) : Option (Int32 × o_Mem) :=
  o_bd (fX12_inWords rf a0 μ0) fun r1 μ1 =>
  if r1 = 0 then (
    o_bd (fX12_aStrike rf a0 μ1) fun r2 μ2 =>
    fX12_valleyPart_j162 rf a0 r2 μ2)
  else
  if r1 = 1 then (
    o_bd (fX12_newOne rf a0 1 4 6 μ1) fun r3 μ3 =>
    if r3 = 0 then (
      fX12_valleyPart_j83 rf a0 r3 (rf a0 0) 2505 (μ3.1 (rf a0 0) 2505) 0 μ3)
    else (
      fX12_valleyPart_j83 rf a0 r3 (rf a0 0) 2505 (μ3.1 (rf a0 0) 2505) 1 μ3))
  else
  if r1 = 2 then (
    o_bd (fX12_aPerson rf a0 μ1) fun r4 μ4 =>
    fX12_valleyPart_j162 rf a0 r4 μ4)
  else
  if r1 = 3 then (
    o_bd (fX12_aLaw rf a0 μ1) fun r5 μ5 =>
    fX12_valleyPart_j162 rf a0 r5 μ5)
  else
  if r1 = 4 then (
    o_bd (fX12_anAct rf a0 μ1) fun r6 μ6 =>
    fX12_valleyPart_j162 rf a0 r6 μ6)
  else
  if r1 = 5 then (
    o_bd (fX12_aLetter rf a0 μ1) fun r7 μ7 =>
    fX12_valleyPart_j162 rf a0 r7 μ7)
  else
  if r1 = 6 then (
    if (μ1.1 a0 20) = 0 then (
      o_seq (o_wI μ1 a0 20 1) fun μ8 =>
      o_bd (fX12_ahead rf a0 μ8) fun _u μ9 =>
      o_bd (fX12_number rf a0 2510 0 16 μ9) fun r8 μ10 =>
      fX12_valleyPart_j162 rf a0 r8 μ10)
    else (
      o_bd (fX12_fails rf a0 5 μ1) fun r9 μ11 =>
      some (r9, μ11)))
  else
    o_bd (fX12_fails rf a0 2 μ1) fun r10 μ12 =>
    some (r10, μ12)
set_option maxRecDepth 20000 in
theorem dnX12_valleyPart_j162 {X : o_Cx} (hX : o_ok X) {d : Nat} {a0 : Nat} {x1 : Int32} {μ0 : o_Mem} {q : Int32 → o_Mem → Prop} (h0 : o_is X a0 (.inl 12)) (h : o_Post (fX12_valleyPart_j162 (o_rf X) a0 x1 μ0) q) : o_Ev X (d + 10) mX12_valleyPart 162 [some (.ref (o_ad X a0)), some (.int x1)] [] μ0 (o_QZ q) := by
  unfold fX12_valleyPart_j162 at h
  refine s_iload_n (i := 1) dX12_valleyPart_162 rfl rfl ?_
  refine s_if_eq (tgt := 179) dX12_valleyPart_163 rfl (fun c1 => ?_) (fun c1 => ?_)
  · have h := o_if_t c1 h
    refine s_iconst dX12_valleyPart_179 kI_0 ?_
    exact s_zreturn rfl (Or.inl rfl) dX12_valleyPart_180 ⟨_, rfl, (Or.inl rfl), o_ret h⟩
  · have h := o_if_f c1 h
    refine s_aload_n (i := 0) dX12_valleyPart_166 rfl rfl ?_
    refine s_bipush dX12_valleyPart_167 kB_59 ?_
    refine s_callVz (C := mX12_wantSign) (As := [.int 59]) (rest := []) (L0 := [some (.ref (o_ad X a0)), some (.int 59)]) hX h0 clX12_239 dX12_valleyPart_169 rfl rfl (Nat.le_of_ble_eq_true rfl) (Nat.le_of_ble_eq_true rfl) (dnX12_wantSign hX h0 (o_bdp h)) (fun r1 μ1 zr1 h => ?_)
    refine s_if_eq (tgt := 179) dX12_valleyPart_172 rfl (fun c1 => ?_) (fun c1 => ?_)
    · have h := o_if_t c1 h
      refine s_iconst dX12_valleyPart_179 kI_0 ?_
      exact s_zreturn rfl (Or.inl rfl) dX12_valleyPart_180 ⟨_, rfl, (Or.inl rfl), o_ret h⟩
    · have h := o_if_f c1 h
      refine s_iconst dX12_valleyPart_175 kI_1 ?_
      refine s_goto (tgt := 180) dX12_valleyPart_176 rfl ?_
      exact s_zreturn rfl (Or.inr rfl) dX12_valleyPart_180 ⟨_, rfl, (Or.inr rfl), o_ret h⟩
set_option maxRecDepth 20000 in
theorem dnX12_valleyPart_j83 {X : o_Cx} (hX : o_ok X) {d : Nat} {a0 : Nat} {x1 : Int32} {b0 : Nat} {y1 : Int32} {y2 : Int32} {y3 : Int32} {μ0 : o_Mem} {q : Int32 → o_Mem → Prop} (h0 : o_is X a0 (.inl 12)) (hb0 : o_is X b0 (.inr (0, 3756))) (h : o_Post (fX12_valleyPart_j83 (o_rf X) a0 x1 b0 y1 y2 y3 μ0) q) : o_Ev X (d + 10) mX12_valleyPart 83 [some (.ref (o_ad X a0)), some (.int x1)] [.int y3, .int y2, .int y1, .ref (o_ad X b0)] μ0 (o_QZ q) := by
  unfold fX12_valleyPart_j83 at h
  refine s_iadd dX12_valleyPart_83 ?_
  have hc := o_ck_c h
  have h := o_ck_k h
  refine s_iastK hX hb0 hc rfl dX12_valleyPart_84 (o_gen h (fun μ1 h => ?_))
  refine s_goto (tgt := 162) dX12_valleyPart_85 rfl ?_
  refine s_mask [true, true] (L' := [some (.ref (o_ad X a0)), some (.int x1)]) rfl ?_
  exact dnX12_valleyPart_j162 hX h0 h
set_option maxRecDepth 20000 in
theorem dnX12_valleyPart {X : o_Cx} (hX : o_ok X) {d : Nat} {a0 : Nat} {μ0 : o_Mem} {q : Int32 → o_Mem → Prop} (h0 : o_is X a0 (.inl 12)) (h : o_Post (fX12_valleyPart (o_rf X) a0 μ0) q) : o_Ev X (d + 10) mX12_valleyPart 0 [some (.ref (o_ad X a0)), none] [] μ0 (o_QZ q) := by
  unfold fX12_valleyPart at h
  refine s_aload_n (i := 0) dX12_valleyPart_0 rfl rfl ?_
  refine s_ldcS1 rfl dX12_valleyPart_1 ?_
  refine s_callVi (C := mX12_inWords) (As := [.ref (o_aK X 1)]) (rest := []) (L0 := [some (.ref (o_ad X a0)), some (.ref (o_aK X 1)), none, none, none, none, none]) hX h0 clX12_172 dX12_valleyPart_3 rfl rfl (Nat.le_of_ble_eq_true rfl) (Nat.le_of_ble_eq_true rfl) (dnX12_inWords hX h0 (o_bdp h)) (fun r1 μ1 h => ?_)
  by_cases e0 : r1 = 0
  · have h := o_if_t e0 h
    refine s_table (off := 42) (tgt := 48) dX12_valleyPart_6 rfl (by rw [e0]; decide) rfl ?_
    refine s_aload_n (i := 0) dX12_valleyPart_48 rfl rfl ?_
    refine s_callVz (C := mX12_aStrike) (As := []) (rest := []) (L0 := [some (.ref (o_ad X a0)), none]) hX h0 clX12_219 dX12_valleyPart_49 rfl rfl (Nat.le_of_ble_eq_true rfl) (Nat.le_of_ble_eq_true rfl) (dnX12_aStrike hX h0 (o_bdp h)) (fun r2 μ2 zr2 h => ?_)
    refine s_istore_n (i := 1) dX12_valleyPart_52 rfl (Nat.le_of_ble_eq_true rfl) rfl ?_
    refine s_goto (tgt := 162) dX12_valleyPart_53 rfl ?_
    refine s_mask [true, true] (L' := [some (.ref (o_ad X a0)), some (.int r2)]) rfl ?_
    exact dnX12_valleyPart_j162 hX h0 h
  have h := o_if_f e0 h
  by_cases e1 : r1 = 1
  · have h := o_if_t e1 h
    refine s_table (off := 50) (tgt := 56) dX12_valleyPart_6 rfl (by rw [e1]; decide) rfl ?_
    refine s_aload_n (i := 0) dX12_valleyPart_56 rfl rfl ?_
    refine s_iconst dX12_valleyPart_57 kI_1 ?_
    refine s_iconst dX12_valleyPart_58 kI_4 ?_
    refine s_bipush dX12_valleyPart_59 kB_6 ?_
    refine s_callVz (C := mX12_newOne) (As := [.int 1, .int 4, .int 6]) (rest := []) (L0 := [some (.ref (o_ad X a0)), some (.int 1), some (.int 4), some (.int 6)]) hX h0 clX12_196 dX12_valleyPart_61 rfl rfl (Nat.le_of_ble_eq_true rfl) (Nat.le_of_ble_eq_true rfl) (dnX12_newOne hX h0 (o_bdp h)) (fun r3 μ3 zr3 h => ?_)
    refine s_istore_n (i := 1) dX12_valleyPart_64 rfl (Nat.le_of_ble_eq_true rfl) rfl ?_
    refine s_aload_n (i := 0) dX12_valleyPart_65 rfl rfl ?_
    refine s_getR hX h0 flX12_7 rfl dX12_valleyPart_66 (fun (g1 : o_is X (o_rf X a0 0) (.inr (0, 3756))) => ?_)
    refine s_sipush dX12_valleyPart_69 kS_2505 ?_
    refine s_dup2 dX12_valleyPart_72 rfl rfl ?_
    refine s_ialdK g1 ⟨by decide, by decide⟩ kN_2505 dX12_valleyPart_73 ?_
    refine s_iload_n (i := 1) dX12_valleyPart_74 rfl rfl ?_
    refine s_if_eq (tgt := 82) dX12_valleyPart_75 rfl (fun c1 => ?_) (fun c1 => ?_)
    · have h := o_if_t c1 h
      refine s_iconst dX12_valleyPart_82 kI_0 ?_
      refine s_mask [true, true] (L' := [some (.ref (o_ad X a0)), some (.int r3)]) rfl ?_
      exact dnX12_valleyPart_j83 hX h0 g1 h
    · have h := o_if_f c1 h
      refine s_iconst dX12_valleyPart_78 kI_1 ?_
      refine s_goto (tgt := 83) dX12_valleyPart_79 rfl ?_
      refine s_mask [true, true] (L' := [some (.ref (o_ad X a0)), some (.int r3)]) rfl ?_
      exact dnX12_valleyPart_j83 hX h0 g1 h
  have h := o_if_f e1 h
  by_cases e2 : r1 = 2
  · have h := o_if_t e2 h
    refine s_table (off := 82) (tgt := 88) dX12_valleyPart_6 rfl (by rw [e2]; decide) rfl ?_
    refine s_aload_n (i := 0) dX12_valleyPart_88 rfl rfl ?_
    refine s_callVz (C := mX12_aPerson) (As := []) (rest := []) (L0 := [some (.ref (o_ad X a0)), none]) hX h0 clX12_223 dX12_valleyPart_89 rfl rfl (Nat.le_of_ble_eq_true rfl) (Nat.le_of_ble_eq_true rfl) (dnX12_aPerson hX h0 (o_bdp h)) (fun r4 μ4 zr4 h => ?_)
    refine s_istore_n (i := 1) dX12_valleyPart_92 rfl (Nat.le_of_ble_eq_true rfl) rfl ?_
    refine s_goto (tgt := 162) dX12_valleyPart_93 rfl ?_
    refine s_mask [true, true] (L' := [some (.ref (o_ad X a0)), some (.int r4)]) rfl ?_
    exact dnX12_valleyPart_j162 hX h0 h
  have h := o_if_f e2 h
  by_cases e3 : r1 = 3
  · have h := o_if_t e3 h
    refine s_table (off := 90) (tgt := 96) dX12_valleyPart_6 rfl (by rw [e3]; decide) rfl ?_
    refine s_aload_n (i := 0) dX12_valleyPart_96 rfl rfl ?_
    refine s_callVz (C := mX12_aLaw) (As := []) (rest := []) (L0 := [some (.ref (o_ad X a0)), none]) hX h0 clX12_226 dX12_valleyPart_97 rfl rfl (Nat.le_of_ble_eq_true rfl) (Nat.le_of_ble_eq_true rfl) (dnX12_aLaw hX h0 (o_bdp h)) (fun r5 μ5 zr5 h => ?_)
    refine s_istore_n (i := 1) dX12_valleyPart_100 rfl (Nat.le_of_ble_eq_true rfl) rfl ?_
    refine s_goto (tgt := 162) dX12_valleyPart_101 rfl ?_
    refine s_mask [true, true] (L' := [some (.ref (o_ad X a0)), some (.int r5)]) rfl ?_
    exact dnX12_valleyPart_j162 hX h0 h
  have h := o_if_f e3 h
  by_cases e4 : r1 = 4
  · have h := o_if_t e4 h
    refine s_table (off := 98) (tgt := 104) dX12_valleyPart_6 rfl (by rw [e4]; decide) rfl ?_
    refine s_aload_n (i := 0) dX12_valleyPart_104 rfl rfl ?_
    refine s_callVz (C := mX12_anAct) (As := []) (rest := []) (L0 := [some (.ref (o_ad X a0)), none, none]) hX h0 clX12_229 dX12_valleyPart_105 rfl rfl (Nat.le_of_ble_eq_true rfl) (Nat.le_of_ble_eq_true rfl) (dnX12_anAct hX h0 (o_bdp h)) (fun r6 μ6 zr6 h => ?_)
    refine s_istore_n (i := 1) dX12_valleyPart_108 rfl (Nat.le_of_ble_eq_true rfl) rfl ?_
    refine s_goto (tgt := 162) dX12_valleyPart_109 rfl ?_
    refine s_mask [true, true] (L' := [some (.ref (o_ad X a0)), some (.int r6)]) rfl ?_
    exact dnX12_valleyPart_j162 hX h0 h
  have h := o_if_f e4 h
  by_cases e5 : r1 = 5
  · have h := o_if_t e5 h
    refine s_table (off := 106) (tgt := 112) dX12_valleyPart_6 rfl (by rw [e5]; decide) rfl ?_
    refine s_aload_n (i := 0) dX12_valleyPart_112 rfl rfl ?_
    refine s_callVz (C := mX12_aLetter) (As := []) (rest := []) (L0 := [some (.ref (o_ad X a0)), none]) hX h0 clX12_232 dX12_valleyPart_113 rfl rfl (Nat.le_of_ble_eq_true rfl) (Nat.le_of_ble_eq_true rfl) (dnX12_aLetter hX h0 (o_bdp h)) (fun r7 μ7 zr7 h => ?_)
    refine s_istore_n (i := 1) dX12_valleyPart_116 rfl (Nat.le_of_ble_eq_true rfl) rfl ?_
    refine s_goto (tgt := 162) dX12_valleyPart_117 rfl ?_
    refine s_mask [true, true] (L' := [some (.ref (o_ad X a0)), some (.int r7)]) rfl ?_
    exact dnX12_valleyPart_j162 hX h0 h
  have h := o_if_f e5 h
  by_cases e6 : r1 = 6
  · have h := o_if_t e6 h
    refine s_table (off := 114) (tgt := 120) dX12_valleyPart_6 rfl (by rw [e6]; decide) rfl ?_
    refine s_aload_n (i := 0) dX12_valleyPart_120 rfl rfl ?_
    refine s_getI h0 flX12_235 rfl dX12_valleyPart_121 ?_
    refine s_if_eq (tgt := 133) dX12_valleyPart_124 rfl (fun c1 => ?_) (fun c1 => ?_)
    · have h := o_if_t c1 h
      refine s_aload_n (i := 0) dX12_valleyPart_133 rfl rfl ?_
      refine s_iconst dX12_valleyPart_134 kI_1 ?_
      refine s_putZ hX h0 fwX12_235 rfl (Or.inr rfl) dX12_valleyPart_135 (o_gen h (fun μ8 h => ?_))
      refine s_aload_n (i := 0) dX12_valleyPart_138 rfl rfl ?_
      refine s_callVu (C := mX12_ahead) (As := []) (rest := []) (L0 := [some (.ref (o_ad X a0)), none]) hX h0 clX12_163 dX12_valleyPart_139 rfl rfl (Nat.le_of_ble_eq_true rfl) (Nat.le_of_ble_eq_true rfl) (dnX12_ahead hX h0 (o_bdp h)) (fun _u μ9 h => ?_)
      refine s_aload_n (i := 0) dX12_valleyPart_142 rfl rfl ?_
      refine s_sipush dX12_valleyPart_143 kS_2510 ?_
      refine s_iconst dX12_valleyPart_146 kI_0 ?_
      refine s_bipush dX12_valleyPart_147 kB_16 ?_
      refine s_callVz (C := mX12_number) (As := [.int 2510, .int 0, .int 16]) (rest := []) (L0 := [some (.ref (o_ad X a0)), some (.int 2510), some (.int 0), some (.int 16)]) hX h0 clX12_202 dX12_valleyPart_149 rfl rfl (Nat.le_of_ble_eq_true rfl) (Nat.le_of_ble_eq_true rfl) (dnX12_number hX h0 (o_bdp h)) (fun r8 μ10 zr8 h => ?_)
      refine s_istore_n (i := 1) dX12_valleyPart_152 rfl (Nat.le_of_ble_eq_true rfl) rfl ?_
      refine s_goto (tgt := 162) dX12_valleyPart_153 rfl ?_
      refine s_mask [true, true] (L' := [some (.ref (o_ad X a0)), some (.int r8)]) rfl ?_
      exact dnX12_valleyPart_j162 hX h0 h
    · have h := o_if_f c1 h
      refine s_aload_n (i := 0) dX12_valleyPart_127 rfl rfl ?_
      refine s_iconst dX12_valleyPart_128 kI_5 ?_
      refine s_callVz (C := mX12_fails) (As := [.int 5]) (rest := []) (L0 := [some (.ref (o_ad X a0)), some (.int 5)]) hX h0 clX12_169 dX12_valleyPart_129 rfl rfl (Nat.le_of_ble_eq_true rfl) (Nat.le_of_ble_eq_true rfl) (dnX12_fails hX h0 (o_bdp h)) (fun r9 μ11 zr9 h => ?_)
      exact s_zreturn rfl zr9 dX12_valleyPart_132 ⟨_, rfl, zr9, o_ret h⟩
  have h := o_if_f e6 h
  have n0 := lv_neT (a := 0) e0 (by decide)
  have n1 := lv_neT (a := 1) e1 (by decide)
  have n2 := lv_neT (a := 2) e2 (by decide)
  have n3 := lv_neT (a := 3) e3 (by decide)
  have n4 := lv_neT (a := 4) e4 (by decide)
  have n5 := lv_neT (a := 5) e5 (by decide)
  have n6 := lv_neT (a := 6) e6 (by decide)
  have hz : (r1).toInt < 0 ∨ 6 < (r1).toInt := by omega
  refine s_table (off := 150) (tgt := 156) dX12_valleyPart_6 rfl (o_tabD hz) rfl ?_
  refine s_aload_n (i := 0) dX12_valleyPart_156 rfl rfl ?_
  refine s_iconst dX12_valleyPart_157 kI_2 ?_
  refine s_callVz (C := mX12_fails) (As := [.int 2]) (rest := []) (L0 := [some (.ref (o_ad X a0)), some (.int 2)]) hX h0 clX12_169 dX12_valleyPart_158 rfl rfl (Nat.le_of_ble_eq_true rfl) (Nat.le_of_ble_eq_true rfl) (dnX12_fails hX h0 (o_bdp h)) (fun r10 μ12 zr10 h => ?_)
  exact s_zreturn rfl zr10 dX12_valleyPart_161 ⟨_, rfl, zr10, o_ret h⟩
theorem dX12_valley_0 : decode cX12_valley 0 = .ok (.aload_n 0, 1) := by decide +kernel
theorem dX12_valley_1 : decode cX12_valley 1 = .ok (.iload_n 1, 1) := by decide +kernel
theorem dX12_valley_2 : decode cX12_valley 2 = .ok (.sipush 900, 3) := by decide +kernel
theorem dX12_valley_5 : decode cX12_valley 5 = .ok (.invokevirtual 242, 3) := by decide +kernel
theorem dX12_valley_8 : decode cX12_valley 8 = .ok (.ifCond .ne 9, 3) := by decide +kernel
theorem dX12_valley_11 : decode cX12_valley 11 = .ok (.aload_n 0, 1) := by decide +kernel
theorem dX12_valley_12 : decode cX12_valley 12 = .ok (.iconst 1, 1) := by decide +kernel
theorem dX12_valley_13 : decode cX12_valley 13 = .ok (.invokevirtual 87, 3) := by decide +kernel
theorem dX12_valley_16 : decode cX12_valley 16 = .ok (.ireturn, 1) := by decide +kernel
theorem dX12_valley_17 : decode cX12_valley 17 = .ok (.aload_n 0, 1) := by decide +kernel
theorem dX12_valley_18 : decode cX12_valley 18 = .ok (.sipush 2504, 3) := by decide +kernel
theorem dX12_valley_21 : decode cX12_valley 21 = .ok (.invokevirtual 77, 3) := by decide +kernel
theorem dX12_valley_24 : decode cX12_valley 24 = .ok (.aload_n 0, 1) := by decide +kernel
theorem dX12_valley_25 : decode cX12_valley 25 = .ok (.iconst 0, 1) := by decide +kernel
theorem dX12_valley_26 : decode cX12_valley 26 = .ok (.putfield 235, 3) := by decide +kernel
theorem dX12_valley_29 : decode cX12_valley 29 = .ok (.iconst 1, 1) := by decide +kernel
theorem dX12_valley_30 : decode cX12_valley 30 = .ok (.istore_n 2, 1) := by decide +kernel
theorem dX12_valley_31 : decode cX12_valley 31 = .ok (.iload_n 2, 1) := by decide +kernel
theorem dX12_valley_32 : decode cX12_valley 32 = .ok (.ifCond .eq 18, 3) := by decide +kernel
theorem dX12_valley_35 : decode cX12_valley 35 = .ok (.aload_n 0, 1) := by decide +kernel
theorem dX12_valley_36 : decode cX12_valley 36 = .ok (.getfield 132, 3) := by decide +kernel
theorem dX12_valley_39 : decode cX12_valley 39 = .ok (.ifCond .eq 11, 3) := by decide +kernel
theorem dX12_valley_42 : decode cX12_valley 42 = .ok (.aload_n 0, 1) := by decide +kernel
theorem dX12_valley_43 : decode cX12_valley 43 = .ok (.invokevirtual 245, 3) := by decide +kernel
theorem dX12_valley_46 : decode cX12_valley 46 = .ok (.istore_n 2, 1) := by decide +kernel
theorem dX12_valley_47 : decode cX12_valley 47 = .ok (.goto (-16), 3) := by decide +kernel
theorem dX12_valley_50 : decode cX12_valley 50 = .ok (.aload_n 0, 1) := by decide +kernel
theorem dX12_valley_51 : decode cX12_valley 51 = .ok (.getfield 157, 3) := by decide +kernel
theorem dX12_valley_54 : decode cX12_valley 54 = .ok (.ifCond .ne 63, 3) := by decide +kernel
theorem dX12_valley_57 : decode cX12_valley 57 = .ok (.iconst 0, 1) := by decide +kernel
theorem dX12_valley_58 : decode cX12_valley 58 = .ok (.istore_n 3, 1) := by decide +kernel
theorem dX12_valley_59 : decode cX12_valley 59 = .ok (.iload_n 3, 1) := by decide +kernel
theorem dX12_valley_60 : decode cX12_valley 60 = .ok (.sipush 626, 3) := by decide +kernel
theorem dX12_valley_63 : decode cX12_valley 63 = .ok (.if_icmp .ge 25, 3) := by decide +kernel
theorem dX12_valley_66 : decode cX12_valley 66 = .ok (.aload_n 0, 1) := by decide +kernel
theorem dX12_valley_67 : decode cX12_valley 67 = .ok (.getfield 7, 3) := by decide +kernel
theorem dX12_valley_70 : decode cX12_valley 70 = .ok (.iload_n 3, 1) := by decide +kernel
theorem dX12_valley_71 : decode cX12_valley 71 = .ok (.aload_n 0, 1) := by decide +kernel
theorem dX12_valley_72 : decode cX12_valley 72 = .ok (.getfield 7, 3) := by decide +kernel
theorem dX12_valley_75 : decode cX12_valley 75 = .ok (.sipush 2504, 3) := by decide +kernel
theorem dX12_valley_78 : decode cX12_valley 78 = .ok (.iload_n 3, 1) := by decide +kernel
theorem dX12_valley_79 : decode cX12_valley 79 = .ok (.iadd, 1) := by decide +kernel
theorem dX12_valley_80 : decode cX12_valley 80 = .ok (.iaload, 1) := by decide +kernel
theorem dX12_valley_81 : decode cX12_valley 81 = .ok (.iastore, 1) := by decide +kernel
theorem dX12_valley_82 : decode cX12_valley 82 = .ok (.iinc 3 1, 3) := by decide +kernel
theorem dX12_valley_85 : decode cX12_valley 85 = .ok (.goto (-26), 3) := by decide +kernel
theorem dX12_valley_88 : decode cX12_valley 88 = .ok (.iconst 0, 1) := by decide +kernel
theorem dX12_valley_89 : decode cX12_valley 89 = .ok (.istore_n 3, 1) := by decide +kernel
theorem dX12_valley_90 : decode cX12_valley 90 = .ok (.iload_n 3, 1) := by decide +kernel
theorem dX12_valley_91 : decode cX12_valley 91 = .ok (.bipush 16, 2) := by decide +kernel
theorem dX12_valley_93 : decode cX12_valley 93 = .ok (.if_icmp .ge 24, 3) := by decide +kernel
theorem dX12_valley_96 : decode cX12_valley 96 = .ok (.aload_n 0, 1) := by decide +kernel
theorem dX12_valley_97 : decode cX12_valley 97 = .ok (.getfield 13, 3) := by decide +kernel
theorem dX12_valley_100 : decode cX12_valley 100 = .ok (.iload_n 3, 1) := by decide +kernel
theorem dX12_valley_101 : decode cX12_valley 101 = .ok (.aload_n 0, 1) := by decide +kernel
theorem dX12_valley_102 : decode cX12_valley 102 = .ok (.getfield 13, 3) := by decide +kernel
theorem dX12_valley_105 : decode cX12_valley 105 = .ok (.bipush 64, 2) := by decide +kernel
theorem dX12_valley_107 : decode cX12_valley 107 = .ok (.iload_n 3, 1) := by decide +kernel
theorem dX12_valley_108 : decode cX12_valley 108 = .ok (.iadd, 1) := by decide +kernel
theorem dX12_valley_109 : decode cX12_valley 109 = .ok (.laload, 1) := by decide +kernel
theorem dX12_valley_110 : decode cX12_valley 110 = .ok (.lastore, 1) := by decide +kernel
theorem dX12_valley_111 : decode cX12_valley 111 = .ok (.iinc 3 1, 3) := by decide +kernel
theorem dX12_valley_114 : decode cX12_valley 114 = .ok (.goto (-24), 3) := by decide +kernel
theorem dX12_valley_117 : decode cX12_valley 117 = .ok (.aload_n 0, 1) := by decide +kernel
theorem dX12_valley_118 : decode cX12_valley 118 = .ok (.aload_n 0, 1) := by decide +kernel
theorem dX12_valley_119 : decode cX12_valley 119 = .ok (.getfield 7, 3) := by decide +kernel
theorem dX12_valley_122 : decode cX12_valley 122 = .ok (.iconst 3, 1) := by decide +kernel
theorem dX12_valley_123 : decode cX12_valley 123 = .ok (.iaload, 1) := by decide +kernel
theorem dX12_valley_124 : decode cX12_valley 124 = .ok (.invokevirtual 248, 3) := by decide +kernel
theorem dX12_valley_127 : decode cX12_valley 127 = .ok (.ireturn, 1) := by decide +kernel
noncomputable def fX12_valley_s31 (rf : Nat → Nat → Nat) (a0 : Nat) (τ31 : Int32) (μ0 : o_Mem) : Option ((Nat × (Int32)) × o_Mem) :=
  if τ31 = 0 then (
    some ((50, 0), μ0))
  else (
    if (μ0.1 a0 12) = 0 then (
      some ((50, 0), μ0))
    else (
      o_bd (fX12_valleyPart rf a0 μ0) fun r1 μ1 =>
      some ((31, r1), μ1)))
noncomputable def fX12_valley_j117 (rf : Nat → Nat → Nat) (a0 : Nat) (μ0 : o_Mem) : Option (Int32 × o_Mem) :=
  o_bd (fX12_taken rf a0 (μ0.1 (rf a0 0) 3) μ0) fun r1 μ1 =>
  some (r1, μ1)
noncomputable def fX12_valley_s59 (rf : Nat → Nat → Nat) (a0 : Nat) (τ59 : Int32) (μ0 : o_Mem) : Option ((Nat × (Int32)) × o_Mem) :=
  if 626 ≤ τ59 then (
    some ((88, 0), μ0))
  else (
    o_ck (0 ≤ ((2504 + τ59)).toInt ∧ ((2504 + τ59)).toInt < 3756) <|
    o_ck (0 ≤ (τ59).toInt ∧ (τ59).toInt < 3756) <|
    o_seq (o_wI μ0 (rf a0 0) τ59.toNatClampNeg (μ0.1 (rf a0 0) ((2504 + τ59)).toNatClampNeg)) fun μ1 =>
    some ((59, (τ59 + 1)), μ1))
noncomputable def fX12_valley_s90 (rf : Nat → Nat → Nat) (a0 : Nat) (τ90 : Int32) (μ0 : o_Mem) : Option ((Nat × (Int32)) × o_Mem) :=
  if 16 ≤ τ90 then (
    some ((117, 0), μ0))
  else (
    o_ck (0 ≤ ((64 + τ90)).toInt ∧ ((64 + τ90)).toInt < 96) <|
    o_ck (0 ≤ (τ90).toInt ∧ (τ90).toInt < 96) <|
    o_seq (o_wL μ0 (rf a0 1) τ90.toNatClampNeg (μ0.2 (rf a0 1) ((64 + τ90)).toNatClampNeg)) fun μ1 =>
    some ((90, (τ90 + 1)), μ1))
noncomputable def fX12_valley_j50 (rf : Nat → Nat → Nat) (a0 : Nat) (μ0 : o_Mem) : Option (Int32 × o_Mem) :=
  if (μ0.1 a0 18) = 0 then (
    o_bd (o_lp 59 (fX12_valley_s59 rf a0) o_fuel (0 : Int32) μ0) fun ex1 μ1 =>
    if ex1.1 = 88 then (
      o_bd (o_lp 90 (fX12_valley_s90 rf a0) o_fuel (0 : Int32) μ1) fun ex2 μ2 =>
      if ex2.1 = 117 then (
        fX12_valley_j117 rf a0 μ2)
      else
        none)
    else
      none)
  else (
    fX12_valley_j117 rf a0 μ0)
noncomputable def fX12_valley (rf : Nat → Nat → Nat) (a0 : Nat) (x1 : Int32) (μ0 : o_Mem) : Option (Int32 × o_Mem) :=
  o_bd (fX12_begins rf a0 x1 900 μ0) fun r1 μ1 =>
  if r1 = 0 then (
    o_bd (fX12_refuse rf a0 1 μ1) fun r2 μ5 =>
    some (r2, μ5))
  else (
    o_bd (fX12_plain rf a0 2504 μ1) fun _u μ2 =>
    o_seq (o_wI μ2 a0 20 0) fun μ3 =>
    o_bd (o_lp 31 (fX12_valley_s31 rf a0) o_fuel (1 : Int32) μ3) fun ex4 μ4 =>
    if ex4.1 = 50 then (
      fX12_valley_j50 rf a0 μ4)
    else
      none)
set_option maxRecDepth 20000 in
theorem dnX12_valley_s31 {X : o_Cx} (hX : o_ok X) {d : Nat} {a0 : Nat} {τ31 : Int32} {μ0 : o_Mem} {K : (Nat × (Int32)) → o_Mem → Prop} {Q : Option Value → o_Mem → Prop} (h0 : o_is X a0 (.inl 12)) (h : o_Post (fX12_valley_s31 (o_rf X) a0 τ31 μ0) K) (kh : ∀ (τ31 : Int32) (μ : o_Mem), K (31, τ31) μ → o_Ev X (d + 11) mX12_valley 31 [some (.ref (o_ad X a0)), none, some (.int τ31), none] [] μ Q) (k50 : ∀ (τ31 : Int32) (μ : o_Mem), K (50, τ31) μ → o_Ev X (d + 11) mX12_valley 50 [some (.ref (o_ad X a0)), none, none, none] [] μ Q) : o_Ev X (d + 11) mX12_valley 31 [some (.ref (o_ad X a0)), none, some (.int τ31), none] [] μ0 Q := by
  unfold fX12_valley_s31 at h
  refine s_iload_n (i := 2) dX12_valley_31 rfl rfl ?_
  refine s_if_eq (tgt := 50) dX12_valley_32 rfl (fun c1 => ?_) (fun c1 => ?_)
  · have h := o_if_t c1 h
    refine s_mask [true, false, false, false] (L' := [some (.ref (o_ad X a0)), none, none, none]) rfl ?_
    exact k50 0 _ (o_ret h)
  · have h := o_if_f c1 h
    refine s_aload_n (i := 0) dX12_valley_35 rfl rfl ?_
    refine s_getI h0 flX12_132 rfl dX12_valley_36 ?_
    refine s_if_eq (tgt := 50) dX12_valley_39 rfl (fun c1 => ?_) (fun c1 => ?_)
    · have h := o_if_t c1 h
      refine s_mask [true, false, false, false] (L' := [some (.ref (o_ad X a0)), none, none, none]) rfl ?_
      exact k50 0 _ (o_ret h)
    · have h := o_if_f c1 h
      refine s_aload_n (i := 0) dX12_valley_42 rfl rfl ?_
      refine s_callVz (C := mX12_valleyPart) (As := []) (rest := []) (L0 := [some (.ref (o_ad X a0)), none]) hX h0 clX12_245 dX12_valley_43 rfl rfl (Nat.le_of_ble_eq_true rfl) (Nat.le_of_ble_eq_true rfl) (dnX12_valleyPart hX h0 (o_bdp h)) (fun r1 μ1 zr1 h => ?_)
      refine s_istore_n (i := 2) dX12_valley_46 rfl (Nat.le_of_ble_eq_true rfl) rfl ?_
      refine s_goto (tgt := 31) dX12_valley_47 rfl ?_
      refine s_mask [true, false, true, false] (L' := [some (.ref (o_ad X a0)), none, some (.int r1), none]) rfl ?_
      exact kh r1 _ (o_ret h)
set_option maxRecDepth 20000 in
theorem dnX12_valley_j117 {X : o_Cx} (hX : o_ok X) {d : Nat} {a0 : Nat} {μ0 : o_Mem} {q : Int32 → o_Mem → Prop} (h0 : o_is X a0 (.inl 12)) (h : o_Post (fX12_valley_j117 (o_rf X) a0 μ0) q) : o_Ev X (d + 11) mX12_valley 117 [some (.ref (o_ad X a0)), none, none, none] [] μ0 (o_QI q) := by
  unfold fX12_valley_j117 at h
  refine s_aload_n (i := 0) dX12_valley_117 rfl rfl ?_
  refine s_aload_n (i := 0) dX12_valley_118 rfl rfl ?_
  refine s_getR hX h0 flX12_7 rfl dX12_valley_119 (fun (g1 : o_is X (o_rf X a0 0) (.inr (0, 3756))) => ?_)
  refine s_iconst dX12_valley_122 kI_3 ?_
  refine s_ialdK g1 ⟨by decide, by decide⟩ kN_3 dX12_valley_123 ?_
  refine s_callVi (C := mX12_taken) (As := [.int (μ0.1 (o_rf X a0 0) 3)]) (rest := []) (L0 := [some (.ref (o_ad X a0)), some (.int (μ0.1 (o_rf X a0 0) 3))]) hX h0 clX12_248 dX12_valley_124 rfl rfl (Nat.le_of_ble_eq_true rfl) (Nat.le_of_ble_eq_true rfl) (dnX12_taken hX h0 (o_bdp h)) (fun r1 μ1 h => ?_)
  exact s_ireturn rfl dX12_valley_127 ⟨_, rfl, o_ret h⟩
set_option maxRecDepth 20000 in
theorem dnX12_valley_s59 {X : o_Cx} (hX : o_ok X) {d : Nat} {a0 : Nat} {τ59 : Int32} {μ0 : o_Mem} {K : (Nat × (Int32)) → o_Mem → Prop} {Q : Option Value → o_Mem → Prop} (h0 : o_is X a0 (.inl 12)) (h : o_Post (fX12_valley_s59 (o_rf X) a0 τ59 μ0) K) (kh : ∀ (τ59 : Int32) (μ : o_Mem), K (59, τ59) μ → o_Ev X (d + 11) mX12_valley 59 [some (.ref (o_ad X a0)), none, none, some (.int τ59)] [] μ Q) (k88 : ∀ (τ59 : Int32) (μ : o_Mem), K (88, τ59) μ → o_Ev X (d + 11) mX12_valley 88 [some (.ref (o_ad X a0)), none, none, none] [] μ Q) : o_Ev X (d + 11) mX12_valley 59 [some (.ref (o_ad X a0)), none, none, some (.int τ59)] [] μ0 Q := by
  unfold fX12_valley_s59 at h
  refine s_iload_n (i := 3) dX12_valley_59 rfl rfl ?_
  refine s_sipush dX12_valley_60 kS_626 ?_
  refine s_icmp_ge (tgt := 88) dX12_valley_63 rfl (fun c1 => ?_) (fun c1 => ?_)
  · have h := o_if_t c1 h
    refine s_mask [true, false, false, false] (L' := [some (.ref (o_ad X a0)), none, none, none]) rfl ?_
    exact k88 0 _ (o_ret h)
  · have h := o_if_f c1 h
    refine s_aload_n (i := 0) dX12_valley_66 rfl rfl ?_
    refine s_getR hX h0 flX12_7 rfl dX12_valley_67 (fun (g1 : o_is X (o_rf X a0 0) (.inr (0, 3756))) => ?_)
    refine s_iload_n (i := 3) dX12_valley_70 rfl rfl ?_
    refine s_aload_n (i := 0) dX12_valley_71 rfl rfl ?_
    refine s_getR hX h0 flX12_7 rfl dX12_valley_72 (fun (g2 : o_is X (o_rf X a0 0) (.inr (0, 3756))) => ?_)
    refine s_sipush dX12_valley_75 kS_2504 ?_
    refine s_iload_n (i := 3) dX12_valley_78 rfl rfl ?_
    refine s_iadd dX12_valley_79 ?_
    have hc := o_ck_c h
    have h := o_ck_k h
    refine s_ialdK g2 hc rfl dX12_valley_80 ?_
    have hc := o_ck_c h
    have h := o_ck_k h
    refine s_iastK hX g1 hc rfl dX12_valley_81 (o_gen h (fun μ1 h => ?_))
    refine s_iinc (v := (τ59 + 1)) dX12_valley_82 rfl rfl (Nat.le_of_ble_eq_true rfl) rfl ?_
    refine s_goto (tgt := 59) dX12_valley_85 rfl ?_
    refine s_mask [true, false, false, true] (L' := [some (.ref (o_ad X a0)), none, none, some (.int (τ59 + 1))]) rfl ?_
    exact kh (τ59 + 1) _ (o_ret h)
set_option maxRecDepth 20000 in
theorem dnX12_valley_s90 {X : o_Cx} (hX : o_ok X) {d : Nat} {a0 : Nat} {τ90 : Int32} {μ0 : o_Mem} {K : (Nat × (Int32)) → o_Mem → Prop} {Q : Option Value → o_Mem → Prop} (h0 : o_is X a0 (.inl 12)) (h : o_Post (fX12_valley_s90 (o_rf X) a0 τ90 μ0) K) (kh : ∀ (τ90 : Int32) (μ : o_Mem), K (90, τ90) μ → o_Ev X (d + 11) mX12_valley 90 [some (.ref (o_ad X a0)), none, none, some (.int τ90)] [] μ Q) (k117 : ∀ (τ90 : Int32) (μ : o_Mem), K (117, τ90) μ → o_Ev X (d + 11) mX12_valley 117 [some (.ref (o_ad X a0)), none, none, none] [] μ Q) : o_Ev X (d + 11) mX12_valley 90 [some (.ref (o_ad X a0)), none, none, some (.int τ90)] [] μ0 Q := by
  unfold fX12_valley_s90 at h
  refine s_iload_n (i := 3) dX12_valley_90 rfl rfl ?_
  refine s_bipush dX12_valley_91 kB_16 ?_
  refine s_icmp_ge (tgt := 117) dX12_valley_93 rfl (fun c1 => ?_) (fun c1 => ?_)
  · have h := o_if_t c1 h
    refine s_mask [true, false, false, false] (L' := [some (.ref (o_ad X a0)), none, none, none]) rfl ?_
    exact k117 0 _ (o_ret h)
  · have h := o_if_f c1 h
    refine s_aload_n (i := 0) dX12_valley_96 rfl rfl ?_
    refine s_getR hX h0 flX12_13 rfl dX12_valley_97 (fun (g1 : o_is X (o_rf X a0 1) (.inr (2, 96))) => ?_)
    refine s_iload_n (i := 3) dX12_valley_100 rfl rfl ?_
    refine s_aload_n (i := 0) dX12_valley_101 rfl rfl ?_
    refine s_getR hX h0 flX12_13 rfl dX12_valley_102 (fun (g2 : o_is X (o_rf X a0 1) (.inr (2, 96))) => ?_)
    refine s_bipush dX12_valley_105 kB_64 ?_
    refine s_iload_n (i := 3) dX12_valley_107 rfl rfl ?_
    refine s_iadd dX12_valley_108 ?_
    have hc := o_ck_c h
    have h := o_ck_k h
    refine s_laldK g2 hc rfl dX12_valley_109 ?_
    have hc := o_ck_c h
    have h := o_ck_k h
    refine s_lastK hX g1 hc rfl dX12_valley_110 (o_gen h (fun μ1 h => ?_))
    refine s_iinc (v := (τ90 + 1)) dX12_valley_111 rfl rfl (Nat.le_of_ble_eq_true rfl) rfl ?_
    refine s_goto (tgt := 90) dX12_valley_114 rfl ?_
    refine s_mask [true, false, false, true] (L' := [some (.ref (o_ad X a0)), none, none, some (.int (τ90 + 1))]) rfl ?_
    exact kh (τ90 + 1) _ (o_ret h)
set_option maxRecDepth 20000 in
theorem dnX12_valley_j50 {X : o_Cx} (hX : o_ok X) {d : Nat} {a0 : Nat} {μ0 : o_Mem} {q : Int32 → o_Mem → Prop} (h0 : o_is X a0 (.inl 12)) (h : o_Post (fX12_valley_j50 (o_rf X) a0 μ0) q) : o_Ev X (d + 11) mX12_valley 50 [some (.ref (o_ad X a0)), none, none, none] [] μ0 (o_QI q) := by
  unfold fX12_valley_j50 at h
  refine s_aload_n (i := 0) dX12_valley_50 rfl rfl ?_
  refine s_getI h0 flX12_157 rfl dX12_valley_51 ?_
  refine s_if_ne (tgt := 117) dX12_valley_54 rfl (fun c1 => ?_) (fun c1 => ?_)
  · have h := o_if_f c1 h
    refine s_mask [true, false, false, false] (L' := [some (.ref (o_ad X a0)), none, none, none]) rfl ?_
    exact dnX12_valley_j117 hX h0 h
  · have h := o_if_t c1 h
    refine s_iconst dX12_valley_57 kI_0 ?_
    refine s_istore_n (i := 3) dX12_valley_58 rfl (Nat.le_of_ble_eq_true rfl) rfl ?_
    refine s_mask [true, false, false, true] (L' := [some (.ref (o_ad X a0)), none, none, some (.int 0)]) rfl ?_
    refine o_lp_ev (fun τ59 => [some (.ref (o_ad X a0)), none, none, some (.int τ59)]) (fun τ59 μ _K h kv ke59 => dnX12_valley_s59 hX h0 h kv (fun τ59 μ1 h => ?_)) o_fuel 0 μ0 (o_bdp h)
    · have h := o_if_t rfl (ke59 (88, τ59) μ1 (o_ne rfl) h)
      refine s_iconst dX12_valley_88 kI_0 ?_
      refine s_istore_n (i := 3) dX12_valley_89 rfl (Nat.le_of_ble_eq_true rfl) rfl ?_
      refine s_mask [true, false, false, true] (L' := [some (.ref (o_ad X a0)), none, none, some (.int 0)]) rfl ?_
      refine o_lp_ev (fun τ90 => [some (.ref (o_ad X a0)), none, none, some (.int τ90)]) (fun τ90 μ _K h kv ke90 => dnX12_valley_s90 hX h0 h kv (fun τ90 μ2 h => ?_)) o_fuel 0 μ1 (o_bdp h)
      · have h := o_if_t rfl (ke90 (117, τ90) μ2 (o_ne rfl) h)
        refine s_mask [true, false, false, false] (L' := [some (.ref (o_ad X a0)), none, none, none]) rfl ?_
        exact dnX12_valley_j117 hX h0 h
set_option maxRecDepth 20000 in
theorem dnX12_valley {X : o_Cx} (hX : o_ok X) {d : Nat} {a0 : Nat} {x1 : Int32} {μ0 : o_Mem} {q : Int32 → o_Mem → Prop} (h0 : o_is X a0 (.inl 12)) (h : o_Post (fX12_valley (o_rf X) a0 x1 μ0) q) : o_Ev X (d + 11) mX12_valley 0 [some (.ref (o_ad X a0)), some (.int x1), none, none] [] μ0 (o_QI q) := by
  unfold fX12_valley at h
  refine s_aload_n (i := 0) dX12_valley_0 rfl rfl ?_
  refine s_iload_n (i := 1) dX12_valley_1 rfl rfl ?_
  refine s_sipush dX12_valley_2 kS_900 ?_
  refine s_callVz (C := mX12_begins) (As := [.int x1, .int 900]) (rest := []) (L0 := [some (.ref (o_ad X a0)), some (.int x1), some (.int 900), none]) hX h0 clX12_242 dX12_valley_5 rfl rfl (Nat.le_of_ble_eq_true rfl) (Nat.le_of_ble_eq_true rfl) (dnX12_begins hX h0 (o_bdp h)) (fun r1 μ1 zr1 h => ?_)
  refine s_if_ne (tgt := 17) dX12_valley_8 rfl (fun c1 => ?_) (fun c1 => ?_)
  · have h := o_if_f c1 h
    refine s_aload_n (i := 0) dX12_valley_17 rfl rfl ?_
    refine s_sipush dX12_valley_18 kS_2504 ?_
    refine s_callVu (C := mX12_plain) (As := [.int 2504]) (rest := []) (L0 := [some (.ref (o_ad X a0)), some (.int 2504), none]) hX h0 clX12_77 dX12_valley_21 rfl rfl (Nat.le_of_ble_eq_true rfl) (Nat.le_of_ble_eq_true rfl) (dnX12_plain hX h0 (o_bdp h)) (fun _u μ2 h => ?_)
    refine s_aload_n (i := 0) dX12_valley_24 rfl rfl ?_
    refine s_iconst dX12_valley_25 kI_0 ?_
    refine s_putZ hX h0 fwX12_235 rfl (Or.inl rfl) dX12_valley_26 (o_gen h (fun μ3 h => ?_))
    refine s_iconst dX12_valley_29 kI_1 ?_
    refine s_istore_n (i := 2) dX12_valley_30 rfl (Nat.le_of_ble_eq_true rfl) rfl ?_
    refine s_mask [true, false, true, false] (L' := [some (.ref (o_ad X a0)), none, some (.int 1), none]) rfl ?_
    refine o_lp_ev (fun τ31 => [some (.ref (o_ad X a0)), none, some (.int τ31), none]) (fun τ31 μ _K h kv ke31 => dnX12_valley_s31 hX h0 h kv (fun τ31 μ4 h => ?_)) o_fuel 1 μ3 (o_bdp h)
    · have h := o_if_t rfl (ke31 (50, τ31) μ4 (o_ne rfl) h)
      refine s_mask [true, false, false, false] (L' := [some (.ref (o_ad X a0)), none, none, none]) rfl ?_
      exact dnX12_valley_j50 hX h0 h
  · have h := o_if_t c1 h
    refine s_aload_n (i := 0) dX12_valley_11 rfl rfl ?_
    refine s_iconst dX12_valley_12 kI_1 ?_
    refine s_callVi (C := mX12_refuse) (As := [.int 1]) (rest := []) (L0 := [some (.ref (o_ad X a0)), some (.int 1)]) hX h0 clX12_87 dX12_valley_13 rfl rfl (Nat.le_of_ble_eq_true rfl) (Nat.le_of_ble_eq_true rfl) (dnX12_refuse hX h0 (o_bdp h)) (fun r2 μ5 h => ?_)
    exact s_ireturn rfl dX12_valley_16 ⟨_, rfl, o_ret h⟩
