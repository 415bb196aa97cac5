theorem dX12_dayGoes_0 : decode cX12_dayGoes 0 = .ok (.aload_n 0, 1) := by decide +kernel
theorem dX12_dayGoes_1 : decode cX12_dayGoes 1 = .ok (.getfield 7, 3) := by decide +kernel
theorem dX12_dayGoes_4 : decode cX12_dayGoes 4 = .ok (.iconst 5, 1) := by decide +kernel
theorem dX12_dayGoes_5 : decode cX12_dayGoes 5 = .ok (.iconst 0, 1) := by decide +kernel
theorem dX12_dayGoes_6 : decode cX12_dayGoes 6 = .ok (.iastore, 1) := by decide +kernel
theorem dX12_dayGoes_7 : decode cX12_dayGoes 7 = .ok (.iconst 0, 1) := by decide +kernel
theorem dX12_dayGoes_8 : decode cX12_dayGoes 8 = .ok (.istore_n 1, 1) := by decide +kernel
theorem dX12_dayGoes_9 : decode cX12_dayGoes 9 = .ok (.iload_n 1, 1) := by decide +kernel
theorem dX12_dayGoes_10 : decode cX12_dayGoes 10 = .ok (.aload_n 0, 1) := by decide +kernel
theorem dX12_dayGoes_11 : decode cX12_dayGoes 11 = .ok (.getfield 7, 3) := by decide +kernel
theorem dX12_dayGoes_14 : decode cX12_dayGoes 14 = .ok (.iconst 2, 1) := by decide +kernel
theorem dX12_dayGoes_15 : decode cX12_dayGoes 15 = .ok (.iaload, 1) := by decide +kernel
theorem dX12_dayGoes_16 : decode cX12_dayGoes 16 = .ok (.if_icmp .ge 47, 3) := by decide +kernel
theorem dX12_dayGoes_19 : decode cX12_dayGoes 19 = .ok (.iconst 0, 1) := by decide +kernel
theorem dX12_dayGoes_20 : decode cX12_dayGoes 20 = .ok (.istore_n 2, 1) := by decide +kernel
theorem dX12_dayGoes_21 : decode cX12_dayGoes 21 = .ok (.iload_n 2, 1) := by decide +kernel
theorem dX12_dayGoes_22 : decode cX12_dayGoes 22 = .ok (.aload_n 0, 1) := by decide +kernel
theorem dX12_dayGoes_23 : decode cX12_dayGoes 23 = .ok (.getfield 7, 3) := by decide +kernel
theorem dX12_dayGoes_26 : decode cX12_dayGoes 26 = .ok (.iconst 4, 1) := by decide +kernel
theorem dX12_dayGoes_27 : decode cX12_dayGoes 27 = .ok (.iaload, 1) := by decide +kernel
theorem dX12_dayGoes_28 : decode cX12_dayGoes 28 = .ok (.if_icmp .ge 29, 3) := by decide +kernel
theorem dX12_dayGoes_31 : decode cX12_dayGoes 31 = .ok (.aload_n 0, 1) := by decide +kernel
theorem dX12_dayGoes_32 : decode cX12_dayGoes 32 = .ok (.getfield 7, 3) := by decide +kernel
theorem dX12_dayGoes_35 : decode cX12_dayGoes 35 = .ok (.iload_n 2, 1) := by decide +kernel
theorem dX12_dayGoes_36 : decode cX12_dayGoes 36 = .ok (.invokestatic 308, 3) := by decide +kernel
theorem dX12_dayGoes_39 : decode cX12_dayGoes 39 = .ok (.iconst 1, 1) := by decide +kernel
theorem dX12_dayGoes_40 : decode cX12_dayGoes 40 = .ok (.iadd, 1) := by decide +kernel
theorem dX12_dayGoes_41 : decode cX12_dayGoes 41 = .ok (.iaload, 1) := by decide +kernel
theorem dX12_dayGoes_42 : decode cX12_dayGoes 42 = .ok (.iload_n 1, 1) := by decide +kernel
theorem dX12_dayGoes_43 : decode cX12_dayGoes 43 = .ok (.if_icmp .ne 8, 3) := by decide +kernel
theorem dX12_dayGoes_46 : decode cX12_dayGoes 46 = .ok (.aload_n 0, 1) := by decide +kernel
theorem dX12_dayGoes_47 : decode cX12_dayGoes 47 = .ok (.iload_n 2, 1) := by decide +kernel
theorem dX12_dayGoes_48 : decode cX12_dayGoes 48 = .ok (.invokevirtual 342, 3) := by decide +kernel
theorem dX12_dayGoes_51 : decode cX12_dayGoes 51 = .ok (.iinc 2 1, 3) := by decide +kernel
theorem dX12_dayGoes_54 : decode cX12_dayGoes 54 = .ok (.goto (-33), 3) := by decide +kernel
theorem dX12_dayGoes_57 : decode cX12_dayGoes 57 = .ok (.iinc 1 1, 3) := by decide +kernel
theorem dX12_dayGoes_60 : decode cX12_dayGoes 60 = .ok (.goto (-51), 3) := by decide +kernel
theorem dX12_dayGoes_63 : decode cX12_dayGoes 63 = .ok (.aload_n 0, 1) := by decide +kernel
theorem dX12_dayGoes_64 : decode cX12_dayGoes 64 = .ok (.getfield 7, 3) := by decide +kernel
theorem dX12_dayGoes_67 : decode cX12_dayGoes 67 = .ok (.iconst 4, 1) := by decide +kernel
theorem dX12_dayGoes_68 : decode cX12_dayGoes 68 = .ok (.iconst 0, 1) := by decide +kernel
theorem dX12_dayGoes_69 : decode cX12_dayGoes 69 = .ok (.iastore, 1) := by decide +kernel
theorem dX12_dayGoes_70 : decode cX12_dayGoes 70 = .ok (.iconst 0, 1) := by decide +kernel
theorem dX12_dayGoes_71 : decode cX12_dayGoes 71 = .ok (.istore_n 1, 1) := by decide +kernel
theorem dX12_dayGoes_72 : decode cX12_dayGoes 72 = .ok (.iload_n 1, 1) := by decide +kernel
theorem dX12_dayGoes_73 : decode cX12_dayGoes 73 = .ok (.aload_n 0, 1) := by decide +kernel
theorem dX12_dayGoes_74 : decode cX12_dayGoes 74 = .ok (.getfield 7, 3) := by decide +kernel
theorem dX12_dayGoes_77 : decode cX12_dayGoes 77 = .ok (.iconst 5, 1) := by decide +kernel
theorem dX12_dayGoes_78 : decode cX12_dayGoes 78 = .ok (.iaload, 1) := by decide +kernel
theorem dX12_dayGoes_79 : decode cX12_dayGoes 79 = .ok (.if_icmp .ge 98, 3) := by decide +kernel
theorem dX12_dayGoes_82 : decode cX12_dayGoes 82 = .ok (.aload_n 0, 1) := by decide +kernel
theorem dX12_dayGoes_83 : decode cX12_dayGoes 83 = .ok (.getfield 7, 3) := by decide +kernel
theorem dX12_dayGoes_86 : decode cX12_dayGoes 86 = .ok (.iload_n 1, 1) := by decide +kernel
theorem dX12_dayGoes_87 : decode cX12_dayGoes 87 = .ok (.invokestatic 311, 3) := by decide +kernel
theorem dX12_dayGoes_90 : decode cX12_dayGoes 90 = .ok (.iconst 1, 1) := by decide +kernel
theorem dX12_dayGoes_91 : decode cX12_dayGoes 91 = .ok (.iadd, 1) := by decide +kernel
theorem dX12_dayGoes_92 : decode cX12_dayGoes 92 = .ok (.iaload, 1) := by decide +kernel
theorem dX12_dayGoes_93 : decode cX12_dayGoes 93 = .ok (.istore_n 2, 1) := by decide +kernel
theorem dX12_dayGoes_94 : decode cX12_dayGoes 94 = .ok (.aload_n 0, 1) := by decide +kernel
theorem dX12_dayGoes_95 : decode cX12_dayGoes 95 = .ok (.getfield 7, 3) := by decide +kernel
theorem dX12_dayGoes_98 : decode cX12_dayGoes 98 = .ok (.iload_n 1, 1) := by decide +kernel
theorem dX12_dayGoes_99 : decode cX12_dayGoes 99 = .ok (.invokestatic 311, 3) := by decide +kernel
theorem dX12_dayGoes_102 : decode cX12_dayGoes 102 = .ok (.iconst 4, 1) := by decide +kernel
theorem dX12_dayGoes_103 : decode cX12_dayGoes 103 = .ok (.iadd, 1) := by decide +kernel
theorem dX12_dayGoes_104 : decode cX12_dayGoes 104 = .ok (.iaload, 1) := by decide +kernel
theorem dX12_dayGoes_105 : decode cX12_dayGoes 105 = .ok (.istore_n 3, 1) := by decide +kernel
theorem dX12_dayGoes_106 : decode cX12_dayGoes 106 = .ok (.iload_n 3, 1) := by decide +kernel
theorem dX12_dayGoes_107 : decode cX12_dayGoes 107 = .ok (.iconst (-1), 1) := by decide +kernel
theorem dX12_dayGoes_108 : decode cX12_dayGoes 108 = .ok (.if_icmp .eq 63, 3) := by decide +kernel
theorem dX12_dayGoes_111 : decode cX12_dayGoes 111 = .ok (.aload_n 0, 1) := by decide +kernel
theorem dX12_dayGoes_112 : decode cX12_dayGoes 112 = .ok (.getfield 7, 3) := by decide +kernel
theorem dX12_dayGoes_115 : decode cX12_dayGoes 115 = .ok (.iload_n 2, 1) := by decide +kernel
theorem dX12_dayGoes_116 : decode cX12_dayGoes 116 = .ok (.iload_n 3, 1) := by decide +kernel
theorem dX12_dayGoes_117 : decode cX12_dayGoes 117 = .ok (.invokestatic 302, 3) := by decide +kernel
theorem dX12_dayGoes_120 : decode cX12_dayGoes 120 = .ok (.iaload, 1) := by decide +kernel
theorem dX12_dayGoes_121 : decode cX12_dayGoes 121 = .ok (.iconst (-1), 1) := by decide +kernel
theorem dX12_dayGoes_122 : decode cX12_dayGoes 122 = .ok (.if_icmp .eq 49, 3) := by decide +kernel
theorem dX12_dayGoes_125 : decode cX12_dayGoes 125 = .ok (.aload_n 0, 1) := by decide +kernel
theorem dX12_dayGoes_126 : decode cX12_dayGoes 126 = .ok (.getfield 7, 3) := by decide +kernel
theorem dX12_dayGoes_129 : decode cX12_dayGoes 129 = .ok (.iconst 4, 1) := by decide +kernel
theorem dX12_dayGoes_130 : decode cX12_dayGoes 130 = .ok (.iaload, 1) := by decide +kernel
theorem dX12_dayGoes_131 : decode cX12_dayGoes 131 = .ok (.bipush 12, 2) := by decide +kernel
theorem dX12_dayGoes_133 : decode cX12_dayGoes 133 = .ok (.if_icmp .ne 6, 3) := by decide +kernel
theorem dX12_dayGoes_136 : decode cX12_dayGoes 136 = .ok (.goto 35, 3) := by decide +kernel
theorem dX12_dayGoes_139 : decode cX12_dayGoes 139 = .ok (.aload_n 0, 1) := by decide +kernel
theorem dX12_dayGoes_140 : decode cX12_dayGoes 140 = .ok (.iload_n 2, 1) := by decide +kernel
theorem dX12_dayGoes_141 : decode cX12_dayGoes 141 = .ok (.aload_n 0, 1) := by decide +kernel
theorem dX12_dayGoes_142 : decode cX12_dayGoes 142 = .ok (.getfield 7, 3) := by decide +kernel
theorem dX12_dayGoes_145 : decode cX12_dayGoes 145 = .ok (.iload_n 2, 1) := by decide +kernel
theorem dX12_dayGoes_146 : decode cX12_dayGoes 146 = .ok (.iload_n 3, 1) := by decide +kernel
theorem dX12_dayGoes_147 : decode cX12_dayGoes 147 = .ok (.invokestatic 302, 3) := by decide +kernel
theorem dX12_dayGoes_150 : decode cX12_dayGoes 150 = .ok (.iaload, 1) := by decide +kernel
theorem dX12_dayGoes_151 : decode cX12_dayGoes 151 = .ok (.aload_n 0, 1) := by decide +kernel
theorem dX12_dayGoes_152 : decode cX12_dayGoes 152 = .ok (.getfield 7, 3) := by decide +kernel
theorem dX12_dayGoes_155 : decode cX12_dayGoes 155 = .ok (.iload_n 2, 1) := by decide +kernel
theorem dX12_dayGoes_156 : decode cX12_dayGoes 156 = .ok (.iload_n 3, 1) := by decide +kernel
theorem dX12_dayGoes_157 : decode cX12_dayGoes 157 = .ok (.invokestatic 302, 3) := by decide +kernel
theorem dX12_dayGoes_160 : decode cX12_dayGoes 160 = .ok (.iconst 1, 1) := by decide +kernel
theorem dX12_dayGoes_161 : decode cX12_dayGoes 161 = .ok (.iadd, 1) := by decide +kernel
theorem dX12_dayGoes_162 : decode cX12_dayGoes 162 = .ok (.iaload, 1) := by decide +kernel
theorem dX12_dayGoes_163 : decode cX12_dayGoes 163 = .ok (.aload_n 0, 1) := by decide +kernel
theorem dX12_dayGoes_164 : decode cX12_dayGoes 164 = .ok (.iload_n 2, 1) := by decide +kernel
theorem dX12_dayGoes_165 : decode cX12_dayGoes 165 = .ok (.invokevirtual 290, 3) := by decide +kernel
theorem dX12_dayGoes_168 : decode cX12_dayGoes 168 = .ok (.invokevirtual 335, 3) := by decide +kernel
theorem dX12_dayGoes_171 : decode cX12_dayGoes 171 = .ok (.iinc 1 1, 3) := by decide +kernel
theorem dX12_dayGoes_174 : decode cX12_dayGoes 174 = .ok (.goto (-102), 3) := by decide +kernel
theorem dX12_dayGoes_177 : decode cX12_dayGoes 177 = .ok (.aload_n 0, 1) := by decide +kernel
theorem dX12_dayGoes_178 : decode cX12_dayGoes 178 = .ok (.getfield 7, 3) := by decide +kernel
theorem dX12_dayGoes_181 : decode cX12_dayGoes 181 = .ok (.bipush 7, 2) := by decide +kernel
theorem dX12_dayGoes_183 : decode cX12_dayGoes 183 = .ok (.dup2, 1) := by decide +kernel
theorem dX12_dayGoes_184 : decode cX12_dayGoes 184 = .ok (.iaload, 1) := by decide +kernel
theorem dX12_dayGoes_185 : decode cX12_dayGoes 185 = .ok (.iconst 1, 1) := by decide +kernel
theorem dX12_dayGoes_186 : decode cX12_dayGoes 186 = .ok (.iadd, 1) := by decide +kernel
theorem dX12_dayGoes_187 : decode cX12_dayGoes 187 = .ok (.iastore, 1) := by decide +kernel
theorem dX12_dayGoes_188 : decode cX12_dayGoes 188 = .ok (.aload_n 0, 1) := by decide +kernel
theorem dX12_dayGoes_189 : decode cX12_dayGoes 189 = .ok (.getfield 7, 3) := by decide +kernel
theorem dX12_dayGoes_192 : decode cX12_dayGoes 192 = .ok (.iconst 5, 1) := by decide +kernel
theorem dX12_dayGoes_193 : decode cX12_dayGoes 193 = .ok (.iaload, 1) := by decide +kernel
theorem dX12_dayGoes_194 : decode cX12_dayGoes 194 = .ok (.ireturn, 1) := by decide +kernel
noncomputable def fX12_dayGoes_s21 (rf : Nat → Nat → Nat) (a0 : Nat) (x1 : Int32) (τ21 : Int32) (μ0 : o_Mem) : Option ((Nat × (Int32)) × o_Mem) :=
  if (μ0.1 (rf a0 0) 4) ≤ τ21 then (
    some ((57, 0), μ0))
  else (
    o_bd (fX12_letterRow rf τ21 μ0) fun r1 μ1 =>
    o_ck (0 ≤ ((r1 + 1)).toInt ∧ ((r1 + 1)).toInt < 3756) <|
    if (μ1.1 (rf a0 0) ((r1 + 1)).toNatClampNeg) = x1 then (
      o_bd (fX12_brings rf a0 τ21 μ1) fun _u μ2 =>
      some ((21, (τ21 + 1)), μ2))
    else (
      some ((21, (τ21 + 1)), μ1)))
noncomputable def fX12_dayGoes_s9 (rf : Nat → Nat → Nat) (a0 : Nat) (τ9 : Int32) (μ0 : o_Mem) : Option ((Nat × (Int32)) × o_Mem) :=
  if (μ0.1 (rf a0 0) 2) ≤ τ9 then (
    some ((63, 0), μ0))
  else (
    o_bd (o_lp 21 (fX12_dayGoes_s21 rf a0 τ9) o_fuel (0 : Int32) μ0) fun ex1 μ1 =>
    if ex1.1 = 57 then (
      some ((9, (τ9 + 1)), μ1))
    else
      none)
noncomputable def fX12_dayGoes_s72 (rf : Nat → Nat → Nat) (a0 : Nat) (τ72 : Int32) (μ0 : o_Mem) : Option ((Nat × (Int32)) × o_Mem) :=
  if (μ0.1 (rf a0 0) 5) ≤ τ72 then (
    some ((177, 0), μ0))
  else (
    o_bd (fX12_coverRow rf τ72 μ0) fun r1 μ1 =>
    o_ck (0 ≤ ((r1 + 1)).toInt ∧ ((r1 + 1)).toInt < 3756) <|
    o_bd (fX12_coverRow rf τ72 μ1) fun r2 μ2 =>
    o_ck (0 ≤ ((r2 + 4)).toInt ∧ ((r2 + 4)).toInt < 3756) <|
    if (μ2.1 (rf a0 0) ((r2 + 4)).toNatClampNeg) = (-1) then (
      some ((72, (τ72 + 1)), μ2))
    else (
      o_bd (fX12_actRow rf (μ1.1 (rf a0 0) ((r1 + 1)).toNatClampNeg) (μ2.1 (rf a0 0) ((r2 + 4)).toNatClampNeg) μ2) fun r3 μ3 =>
      o_ck (0 ≤ (r3).toInt ∧ (r3).toInt < 3756) <|
      if (μ3.1 (rf a0 0) r3.toNatClampNeg) = (-1) then (
        some ((72, (τ72 + 1)), μ3))
      else (
        if (μ3.1 (rf a0 0) 4) = 12 then (
          some ((72, (τ72 + 1)), μ3))
        else (
          o_bd (fX12_actRow rf (μ1.1 (rf a0 0) ((r1 + 1)).toNatClampNeg) (μ2.1 (rf a0 0) ((r2 + 4)).toNatClampNeg) μ3) fun r4 μ4 =>
          o_ck (0 ≤ (r4).toInt ∧ (r4).toInt < 3756) <|
          o_bd (fX12_actRow rf (μ1.1 (rf a0 0) ((r1 + 1)).toNatClampNeg) (μ2.1 (rf a0 0) ((r2 + 4)).toNatClampNeg) μ4) fun r5 μ5 =>
          o_ck (0 ≤ ((r5 + 1)).toInt ∧ ((r5 + 1)).toInt < 3756) <|
          o_bd (fX12_handOf rf a0 (μ1.1 (rf a0 0) ((r1 + 1)).toNatClampNeg) μ5) fun r6 μ6 =>
          o_bd (fX12_posts rf a0 (μ1.1 (rf a0 0) ((r1 + 1)).toNatClampNeg) (μ4.1 (rf a0 0) r4.toNatClampNeg) (μ5.1 (rf a0 0) ((r5 + 1)).toNatClampNeg) r6 μ6) fun _u μ7 =>
          some ((72, (τ72 + 1)), μ7)))))
noncomputable def fX12_dayGoes (rf : Nat → Nat → Nat) (a0 : Nat) (μ0 : o_Mem) : Option (Int32 × o_Mem) :=
  o_seq (o_wI μ0 (rf a0 0) 5 0) fun μ1 =>
  o_bd (o_lp 9 (fX12_dayGoes_s9 rf a0) o_fuel (0 : Int32) μ1) fun ex2 μ2 =>
  if ex2.1 = 63 then (
    o_seq (o_wI μ2 (rf a0 0) 4 0) fun μ3 =>
    o_bd (o_lp 72 (fX12_dayGoes_s72 rf a0) o_fuel (0 : Int32) μ3) fun ex4 μ4 =>
    if ex4.1 = 177 then (
      o_seq (o_wI μ4 (rf a0 0) 7 ((μ4.1 (rf a0 0) 7) + 1)) fun μ5 =>
      some ((μ5.1 (rf a0 0) 5), μ5))
    else
      none)
  else
    none
set_option maxRecDepth 20000 in
theorem dnX12_dayGoes_s21 {X : o_Cx} (hX : o_ok X) {d : Nat} {a0 : Nat} {x1 : Int32} {τ21 : Int32} {μ0 : o_Mem} {K : (Nat × (Int32)) → o_Mem → Prop} {Q : Option Value → o_Mem → Prop} (h0 : o_is X a0 (.inl 12)) (h : o_Post (fX12_dayGoes_s21 (o_rf X) a0 x1 τ21 μ0) K) (kh : ∀ (τ21 : Int32) (μ : o_Mem), K (21, τ21) μ → o_Ev X (d + 6) mX12_dayGoes 21 [some (.ref (o_ad X a0)), some (.int x1), some (.int τ21), none] [] μ Q) (k57 : ∀ (τ21 : Int32) (μ : o_Mem), K (57, τ21) μ → o_Ev X (d + 6) mX12_dayGoes 57 [some (.ref (o_ad X a0)), some (.int x1), none, none] [] μ Q) : o_Ev X (d + 6) mX12_dayGoes 21 [some (.ref (o_ad X a0)), some (.int x1), some (.int τ21), none] [] μ0 Q := by
  unfold fX12_dayGoes_s21 at h
  refine s_iload_n (i := 2) dX12_dayGoes_21 rfl rfl ?_
  refine s_aload_n (i := 0) dX12_dayGoes_22 rfl rfl ?_
  refine s_getR hX h0 flX12_7 rfl dX12_dayGoes_23 (fun (g1 : o_is X (o_rf X a0 0) (.inr (0, 3756))) => ?_)
  refine s_iconst dX12_dayGoes_26 kI_4 ?_
  refine s_ialdK g1 ⟨by decide, by decide⟩ kN_4 dX12_dayGoes_27 ?_
  refine s_icmp_ge (tgt := 57) dX12_dayGoes_28 rfl (fun c1 => ?_) (fun c1 => ?_)
  · have h := o_if_t c1 h
    refine s_mask [true, true, false, false] (L' := [some (.ref (o_ad X a0)), some (.int x1), none, none]) rfl ?_
    exact k57 0 _ (o_ret h)
  · have h := o_if_f c1 h
    refine s_aload_n (i := 0) dX12_dayGoes_31 rfl rfl ?_
    refine s_getR hX h0 flX12_7 rfl dX12_dayGoes_32 (fun (g2 : o_is X (o_rf X a0 0) (.inr (0, 3756))) => ?_)
    refine s_iload_n (i := 2) dX12_dayGoes_35 rfl rfl ?_
    refine s_callSi (C := mX12_letterRow) (As := [.int τ21]) (rest := [.ref (o_ad X (o_rf X a0 0))]) (L0 := [some (.int τ21)]) clX12_308 dX12_dayGoes_36 rfl rfl (Nat.le_of_ble_eq_true rfl) (Nat.le_of_ble_eq_true rfl) (dnX12_letterRow hX  (o_bdp h)) (fun r1 μ1 h => ?_)
    refine s_iconst dX12_dayGoes_39 kI_1 ?_
    refine s_iadd dX12_dayGoes_40 ?_
    have hc := o_ck_c h
    have h := o_ck_k h
    refine s_ialdK g2 hc rfl dX12_dayGoes_41 ?_
    refine s_iload_n (i := 1) dX12_dayGoes_42 rfl rfl ?_
    refine s_icmp_ne (tgt := 51) dX12_dayGoes_43 rfl (fun c1 => ?_) (fun c1 => ?_)
    · have h := o_if_f c1 h
      refine s_iinc (v := (τ21 + 1)) dX12_dayGoes_51 rfl rfl (Nat.le_of_ble_eq_true rfl) rfl ?_
      refine s_goto (tgt := 21) dX12_dayGoes_54 rfl ?_
      refine s_mask [true, true, true, false] (L' := [some (.ref (o_ad X a0)), some (.int x1), some (.int (τ21 + 1)), none]) rfl ?_
      exact kh (τ21 + 1) _ (o_ret h)
    · have h := o_if_t c1 h
      refine s_aload_n (i := 0) dX12_dayGoes_46 rfl rfl ?_
      refine s_iload_n (i := 2) dX12_dayGoes_47 rfl rfl ?_
      refine s_callVu (C := mX12_brings) (As := [.int τ21]) (rest := []) (L0 := [some (.ref (o_ad X a0)), some (.int τ21), none, none, none]) hX h0 clX12_342 dX12_dayGoes_48 rfl rfl (Nat.le_of_ble_eq_true rfl) (Nat.le_of_ble_eq_true rfl) (dnX12_brings hX h0 (o_bdp h)) (fun _u μ2 h => ?_)
      refine s_iinc (v := (τ21 + 1)) dX12_dayGoes_51 rfl rfl (Nat.le_of_ble_eq_true rfl) rfl ?_
      refine s_goto (tgt := 21) dX12_dayGoes_54 rfl ?_
      refine s_mask [true, true, true, false] (L' := [some (.ref (o_ad X a0)), some (.int x1), some (.int (τ21 + 1)), none]) rfl ?_
      exact kh (τ21 + 1) _ (o_ret h)
set_option maxRecDepth 20000 in
theorem dnX12_dayGoes_s9 {X : o_Cx} (hX : o_ok X) {d : Nat} {a0 : Nat} {τ9 : Int32} {μ0 : o_Mem} {K : (Nat × (Int32)) → o_Mem → Prop} {Q : Option Value → o_Mem → Prop} (h0 : o_is X a0 (.inl 12)) (h : o_Post (fX12_dayGoes_s9 (o_rf X) a0 τ9 μ0) K) (kh : ∀ (τ9 : Int32) (μ : o_Mem), K (9, τ9) μ → o_Ev X (d + 6) mX12_dayGoes 9 [some (.ref (o_ad X a0)), some (.int τ9), none, none] [] μ Q) (k63 : ∀ (τ9 : Int32) (μ : o_Mem), K (63, τ9) μ → o_Ev X (d + 6) mX12_dayGoes 63 [some (.ref (o_ad X a0)), none, none, none] [] μ Q) : o_Ev X (d + 6) mX12_dayGoes 9 [some (.ref (o_ad X a0)), some (.int τ9), none, none] [] μ0 Q := by
  unfold fX12_dayGoes_s9 at h
  refine s_iload_n (i := 1) dX12_dayGoes_9 rfl rfl ?_
  refine s_aload_n (i := 0) dX12_dayGoes_10 rfl rfl ?_
  refine s_getR hX h0 flX12_7 rfl dX12_dayGoes_11 (fun (g1 : o_is X (o_rf X a0 0) (.inr (0, 3756))) => ?_)
  refine s_iconst dX12_dayGoes_14 kI_2 ?_
  refine s_ialdK g1 ⟨by decide, by decide⟩ kN_2 dX12_dayGoes_15 ?_
  refine s_icmp_ge (tgt := 63) dX12_dayGoes_16 rfl (fun c1 => ?_) (fun c1 => ?_)
  · have h := o_if_t c1 h
    refine s_mask [true, false, false, false] (L' := [some (.ref (o_ad X a0)), none, none, none]) rfl ?_
    exact k63 0 _ (o_ret h)
  · have h := o_if_f c1 h
    refine s_iconst dX12_dayGoes_19 kI_0 ?_
    refine s_istore_n (i := 2) dX12_dayGoes_20 rfl (Nat.le_of_ble_eq_true rfl) rfl ?_
    refine s_mask [true, true, true, false] (L' := [some (.ref (o_ad X a0)), some (.int τ9), some (.int 0), none]) rfl ?_
    refine o_lp_ev (fun τ21 => [some (.ref (o_ad X a0)), some (.int τ9), some (.int τ21), none]) (fun τ21 μ _K h kv ke21 => dnX12_dayGoes_s21 hX h0 h kv (fun τ21 μ1 h => ?_)) o_fuel 0 μ0 (o_bdp h)
    · have h := o_if_t rfl (ke21 (57, τ21) μ1 (o_ne rfl) h)
      refine s_iinc (v := (τ9 + 1)) dX12_dayGoes_57 rfl rfl (Nat.le_of_ble_eq_true rfl) rfl ?_
      refine s_goto (tgt := 9) dX12_dayGoes_60 rfl ?_
      refine s_mask [true, true, false, false] (L' := [some (.ref (o_ad X a0)), some (.int (τ9 + 1)), none, none]) rfl ?_
      exact kh (τ9 + 1) _ (o_ret h)
set_option maxRecDepth 20000 in
theorem dnX12_dayGoes_s72 {X : o_Cx} (hX : o_ok X) {d : Nat} {a0 : Nat} {τ72 : Int32} {μ0 : o_Mem} {K : (Nat × (Int32)) → o_Mem → Prop} {Q : Option Value → o_Mem → Prop} (h0 : o_is X a0 (.inl 12)) (h : o_Post (fX12_dayGoes_s72 (o_rf X) a0 τ72 μ0) K) (kh : ∀ (τ72 : Int32) (μ : o_Mem), K (72, τ72) μ → o_Ev X (d + 6) mX12_dayGoes 72 [some (.ref (o_ad X a0)), some (.int τ72), none, none] [] μ Q) (k177 : ∀ (τ72 : Int32) (μ : o_Mem), K (177, τ72) μ → o_Ev X (d + 6) mX12_dayGoes 177 [some (.ref (o_ad X a0)), none, none, none] [] μ Q) : o_Ev X (d + 6) mX12_dayGoes 72 [some (.ref (o_ad X a0)), some (.int τ72), none, none] [] μ0 Q := by
  unfold fX12_dayGoes_s72 at h
  refine s_iload_n (i := 1) dX12_dayGoes_72 rfl rfl ?_
  refine s_aload_n (i := 0) dX12_dayGoes_73 rfl rfl ?_
  refine s_getR hX h0 flX12_7 rfl dX12_dayGoes_74 (fun (g1 : o_is X (o_rf X a0 0) (.inr (0, 3756))) => ?_)
  refine s_iconst dX12_dayGoes_77 kI_5 ?_
  refine s_ialdK g1 ⟨by decide, by decide⟩ kN_5 dX12_dayGoes_78 ?_
  refine s_icmp_ge (tgt := 177) dX12_dayGoes_79 rfl (fun c1 => ?_) (fun c1 => ?_)
  · have h := o_if_t c1 h
    refine s_mask [true, false, false, false] (L' := [some (.ref (o_ad X a0)), none, none, none]) rfl ?_
    exact k177 0 _ (o_ret h)
  · have h := o_if_f c1 h
    refine s_aload_n (i := 0) dX12_dayGoes_82 rfl rfl ?_
    refine s_getR hX h0 flX12_7 rfl dX12_dayGoes_83 (fun (g2 : o_is X (o_rf X a0 0) (.inr (0, 3756))) => ?_)
    refine s_iload_n (i := 1) dX12_dayGoes_86 rfl rfl ?_
    refine s_callSi (C := mX12_coverRow) (As := [.int τ72]) (rest := [.ref (o_ad X (o_rf X a0 0))]) (L0 := [some (.int τ72)]) clX12_311 dX12_dayGoes_87 rfl rfl (Nat.le_of_ble_eq_true rfl) (Nat.le_of_ble_eq_true rfl) (dnX12_coverRow hX  (o_bdp h)) (fun r1 μ1 h => ?_)
    refine s_iconst dX12_dayGoes_90 kI_1 ?_
    refine s_iadd dX12_dayGoes_91 ?_
    have hc := o_ck_c h
    have h := o_ck_k h
    refine s_ialdK g2 hc rfl dX12_dayGoes_92 ?_
    refine s_istore_n (i := 2) dX12_dayGoes_93 rfl (Nat.le_of_ble_eq_true rfl) rfl ?_
    refine s_aload_n (i := 0) dX12_dayGoes_94 rfl rfl ?_
    refine s_getR hX h0 flX12_7 rfl dX12_dayGoes_95 (fun (g3 : o_is X (o_rf X a0 0) (.inr (0, 3756))) => ?_)
    refine s_iload_n (i := 1) dX12_dayGoes_98 rfl rfl ?_
    refine s_callSi (C := mX12_coverRow) (As := [.int τ72]) (rest := [.ref (o_ad X (o_rf X a0 0))]) (L0 := [some (.int τ72)]) clX12_311 dX12_dayGoes_99 rfl rfl (Nat.le_of_ble_eq_true rfl) (Nat.le_of_ble_eq_true rfl) (dnX12_coverRow hX  (o_bdp h)) (fun r2 μ2 h => ?_)
    refine s_iconst dX12_dayGoes_102 kI_4 ?_
    refine s_iadd dX12_dayGoes_103 ?_
    have hc := o_ck_c h
    have h := o_ck_k h
    refine s_ialdK g3 hc rfl dX12_dayGoes_104 ?_
    refine s_istore_n (i := 3) dX12_dayGoes_105 rfl (Nat.le_of_ble_eq_true rfl) rfl ?_
    refine s_iload_n (i := 3) dX12_dayGoes_106 rfl rfl ?_
    refine s_iconst dX12_dayGoes_107 kI_m1 ?_
    refine s_icmp_eq (tgt := 171) dX12_dayGoes_108 rfl (fun c1 => ?_) (fun c1 => ?_)
    · have h := o_if_t c1 h
      refine s_iinc (v := (τ72 + 1)) dX12_dayGoes_171 rfl rfl (Nat.le_of_ble_eq_true rfl) rfl ?_
      refine s_goto (tgt := 72) dX12_dayGoes_174 rfl ?_
      refine s_mask [true, true, false, false] (L' := [some (.ref (o_ad X a0)), some (.int (τ72 + 1)), none, none]) rfl ?_
      exact kh (τ72 + 1) _ (o_ret h)
    · have h := o_if_f c1 h
      refine s_aload_n (i := 0) dX12_dayGoes_111 rfl rfl ?_
      refine s_getR hX h0 flX12_7 rfl dX12_dayGoes_112 (fun (g4 : o_is X (o_rf X a0 0) (.inr (0, 3756))) => ?_)
      refine s_iload_n (i := 2) dX12_dayGoes_115 rfl rfl ?_
      refine s_iload_n (i := 3) dX12_dayGoes_116 rfl rfl ?_
      refine s_callSi (C := mX12_actRow) (As := [.int (μ1.1 (o_rf X a0 0) ((r1 + 1)).toNatClampNeg), .int (μ2.1 (o_rf X a0 0) ((r2 + 4)).toNatClampNeg)]) (rest := [.ref (o_ad X (o_rf X a0 0))]) (L0 := [some (.int (μ1.1 (o_rf X a0 0) ((r1 + 1)).toNatClampNeg)), some (.int (μ2.1 (o_rf X a0 0) ((r2 + 4)).toNatClampNeg))]) clX12_302 dX12_dayGoes_117 rfl rfl (Nat.le_of_ble_eq_true rfl) (Nat.le_of_ble_eq_true rfl) (dnX12_actRow hX  (o_bdp h)) (fun r3 μ3 h => ?_)
      have hc := o_ck_c h
      have h := o_ck_k h
      refine s_ialdK g4 hc rfl dX12_dayGoes_120 ?_
      refine s_iconst dX12_dayGoes_121 kI_m1 ?_
      refine s_icmp_eq (tgt := 171) dX12_dayGoes_122 rfl (fun c1 => ?_) (fun c1 => ?_)
      · have h := o_if_t c1 h
        refine s_iinc (v := (τ72 + 1)) dX12_dayGoes_171 rfl rfl (Nat.le_of_ble_eq_true rfl) rfl ?_
        refine s_goto (tgt := 72) dX12_dayGoes_174 rfl ?_
        refine s_mask [true, true, false, false] (L' := [some (.ref (o_ad X a0)), some (.int (τ72 + 1)), none, none]) rfl ?_
        exact kh (τ72 + 1) _ (o_ret h)
      · have h := o_if_f c1 h
        refine s_aload_n (i := 0) dX12_dayGoes_125 rfl rfl ?_
        refine s_getR hX h0 flX12_7 rfl dX12_dayGoes_126 (fun (g5 : o_is X (o_rf X a0 0) (.inr (0, 3756))) => ?_)
        refine s_iconst dX12_dayGoes_129 kI_4 ?_
        refine s_ialdK g5 ⟨by decide, by decide⟩ kN_4 dX12_dayGoes_130 ?_
        refine s_bipush dX12_dayGoes_131 kB_12 ?_
        refine s_icmp_ne (tgt := 139) dX12_dayGoes_133 rfl (fun c1 => ?_) (fun c1 => ?_)
        · have h := o_if_f c1 h
          refine s_aload_n (i := 0) dX12_dayGoes_139 rfl rfl ?_
          refine s_iload_n (i := 2) dX12_dayGoes_140 rfl rfl ?_
          refine s_aload_n (i := 0) dX12_dayGoes_141 rfl rfl ?_
          refine s_getR hX h0 flX12_7 rfl dX12_dayGoes_142 (fun (g6 : o_is X (o_rf X a0 0) (.inr (0, 3756))) => ?_)
          refine s_iload_n (i := 2) dX12_dayGoes_145 rfl rfl ?_
          refine s_iload_n (i := 3) dX12_dayGoes_146 rfl rfl ?_
          refine s_callSi (C := mX12_actRow) (As := [.int (μ1.1 (o_rf X a0 0) ((r1 + 1)).toNatClampNeg), .int (μ2.1 (o_rf X a0 0) ((r2 + 4)).toNatClampNeg)]) (rest := [.ref (o_ad X (o_rf X a0 0)), .int (μ1.1 (o_rf X a0 0) ((r1 + 1)).toNatClampNeg), .ref (o_ad X a0)]) (L0 := [some (.int (μ1.1 (o_rf X a0 0) ((r1 + 1)).toNatClampNeg)), some (.int (μ2.1 (o_rf X a0 0) ((r2 + 4)).toNatClampNeg))]) clX12_302 dX12_dayGoes_147 rfl rfl (Nat.le_of_ble_eq_true rfl) (Nat.le_of_ble_eq_true rfl) (dnX12_actRow hX  (o_bdp h)) (fun r4 μ4 h => ?_)
          have hc := o_ck_c h
          have h := o_ck_k h
          refine s_ialdK g6 hc rfl dX12_dayGoes_150 ?_
          refine s_aload_n (i := 0) dX12_dayGoes_151 rfl rfl ?_
          refine s_getR hX h0 flX12_7 rfl dX12_dayGoes_152 (fun (g7 : o_is X (o_rf X a0 0) (.inr (0, 3756))) => ?_)
          refine s_iload_n (i := 2) dX12_dayGoes_155 rfl rfl ?_
          refine s_iload_n (i := 3) dX12_dayGoes_156 rfl rfl ?_
          refine s_callSi (C := mX12_actRow) (As := [.int (μ1.1 (o_rf X a0 0) ((r1 + 1)).toNatClampNeg), .int (μ2.1 (o_rf X a0 0) ((r2 + 4)).toNatClampNeg)]) (rest := [.ref (o_ad X (o_rf X a0 0)), .int (μ4.1 (o_rf X a0 0) r4.toNatClampNeg), .int (μ1.1 (o_rf X a0 0) ((r1 + 1)).toNatClampNeg), .ref (o_ad X a0)]) (L0 := [some (.int (μ1.1 (o_rf X a0 0) ((r1 + 1)).toNatClampNeg)), some (.int (μ2.1 (o_rf X a0 0) ((r2 + 4)).toNatClampNeg))]) clX12_302 dX12_dayGoes_157 rfl rfl (Nat.le_of_ble_eq_true rfl) (Nat.le_of_ble_eq_true rfl) (dnX12_actRow hX  (o_bdp h)) (fun r5 μ5 h => ?_)
          refine s_iconst dX12_dayGoes_160 kI_1 ?_
          refine s_iadd dX12_dayGoes_161 ?_
          have hc := o_ck_c h
          have h := o_ck_k h
          refine s_ialdK g7 hc rfl dX12_dayGoes_162 ?_
          refine s_aload_n (i := 0) dX12_dayGoes_163 rfl rfl ?_
          refine s_iload_n (i := 2) dX12_dayGoes_164 rfl rfl ?_
          refine s_callVi (C := mX12_handOf) (As := [.int (μ1.1 (o_rf X a0 0) ((r1 + 1)).toNatClampNeg)]) (rest := [.int (μ5.1 (o_rf X a0 0) ((r5 + 1)).toNatClampNeg), .int (μ4.1 (o_rf X a0 0) r4.toNatClampNeg), .int (μ1.1 (o_rf X a0 0) ((r1 + 1)).toNatClampNeg), .ref (o_ad X a0)]) (L0 := [some (.ref (o_ad X a0)), some (.int (μ1.1 (o_rf X a0 0) ((r1 + 1)).toNatClampNeg))]) hX h0 clX12_290 dX12_dayGoes_165 rfl rfl (Nat.le_of_ble_eq_true rfl) (Nat.le_of_ble_eq_true rfl) (dnX12_handOf hX h0 (o_bdp h)) (fun r6 μ6 h => ?_)
          refine s_callVu (C := mX12_posts) (As := [.int (μ1.1 (o_rf X a0 0) ((r1 + 1)).toNatClampNeg), .int (μ4.1 (o_rf X a0 0) r4.toNatClampNeg), .int (μ5.1 (o_rf X a0 0) ((r5 + 1)).toNatClampNeg), .int r6]) (rest := []) (L0 := [some (.ref (o_ad X a0)), some (.int (μ1.1 (o_rf X a0 0) ((r1 + 1)).toNatClampNeg)), some (.int (μ4.1 (o_rf X a0 0) r4.toNatClampNeg)), some (.int (μ5.1 (o_rf X a0 0) ((r5 + 1)).toNatClampNeg)), some (.int r6), none]) hX h0 clX12_335 dX12_dayGoes_168 rfl rfl (Nat.le_of_ble_eq_true rfl) (Nat.le_of_ble_eq_true rfl) (dnX12_posts hX h0 (o_bdp h)) (fun _u μ7 h => ?_)
          refine s_iinc (v := (τ72 + 1)) dX12_dayGoes_171 rfl rfl (Nat.le_of_ble_eq_true rfl) rfl ?_
          refine s_goto (tgt := 72) dX12_dayGoes_174 rfl ?_
          refine s_mask [true, true, false, false] (L' := [some (.ref (o_ad X a0)), some (.int (τ72 + 1)), none, none]) rfl ?_
          exact kh (τ72 + 1) _ (o_ret h)
        · have h := o_if_t c1 h
          refine s_goto (tgt := 171) dX12_dayGoes_136 rfl ?_
          refine s_iinc (v := (τ72 + 1)) dX12_dayGoes_171 rfl rfl (Nat.le_of_ble_eq_true rfl) rfl ?_
          refine s_goto (tgt := 72) dX12_dayGoes_174 rfl ?_
          refine s_mask [true, true, false, false] (L' := [some (.ref (o_ad X a0)), some (.int (τ72 + 1)), none, none]) rfl ?_
          exact kh (τ72 + 1) _ (o_ret h)
set_option maxRecDepth 20000 in
theorem dnX12_dayGoes {X : o_Cx} (hX : o_ok X) {d : Nat} {a0 : Nat} {μ0 : o_Mem} {q : Int32 → o_Mem → Prop} (h0 : o_is X a0 (.inl 12)) (h : o_Post (fX12_dayGoes (o_rf X) a0 μ0) q) : o_Ev X (d + 6) mX12_dayGoes 0 [some (.ref (o_ad X a0)), none, none, none] [] μ0 (o_QI q) := by
  unfold fX12_dayGoes at h
  refine s_aload_n (i := 0) dX12_dayGoes_0 rfl rfl ?_
  refine s_getR hX h0 flX12_7 rfl dX12_dayGoes_1 (fun (g1 : o_is X (o_rf X a0 0) (.inr (0, 3756))) => ?_)
  refine s_iconst dX12_dayGoes_4 kI_5 ?_
  refine s_iconst dX12_dayGoes_5 kI_0 ?_
  refine s_iastK hX g1 ⟨by decide, by decide⟩ kN_5 dX12_dayGoes_6 (o_gen h (fun μ1 h => ?_))
  refine s_iconst dX12_dayGoes_7 kI_0 ?_
  refine s_istore_n (i := 1) dX12_dayGoes_8 rfl (Nat.le_of_ble_eq_true rfl) rfl ?_
  refine s_mask [true, true, false, false] (L' := [some (.ref (o_ad X a0)), some (.int 0), none, none]) rfl ?_
  refine o_lp_ev (fun τ9 => [some (.ref (o_ad X a0)), some (.int τ9), none, none]) (fun τ9 μ _K h kv ke9 => dnX12_dayGoes_s9 hX h0 h kv (fun τ9 μ2 h => ?_)) o_fuel 0 μ1 (o_bdp h)
  · have h := o_if_t rfl (ke9 (63, τ9) μ2 (o_ne rfl) h)
    refine s_aload_n (i := 0) dX12_dayGoes_63 rfl rfl ?_
    refine s_getR hX h0 flX12_7 rfl dX12_dayGoes_64 (fun (g2 : o_is X (o_rf X a0 0) (.inr (0, 3756))) => ?_)
    refine s_iconst dX12_dayGoes_67 kI_4 ?_
    refine s_iconst dX12_dayGoes_68 kI_0 ?_
    refine s_iastK hX g2 ⟨by decide, by decide⟩ kN_4 dX12_dayGoes_69 (o_gen h (fun μ3 h => ?_))
    refine s_iconst dX12_dayGoes_70 kI_0 ?_
    refine s_istore_n (i := 1) dX12_dayGoes_71 rfl (Nat.le_of_ble_eq_true rfl) rfl ?_
    refine s_mask [true, true, false, false] (L' := [some (.ref (o_ad X a0)), some (.int 0), none, none]) rfl ?_
    refine o_lp_ev (fun τ72 => [some (.ref (o_ad X a0)), some (.int τ72), none, none]) (fun τ72 μ _K h kv ke72 => dnX12_dayGoes_s72 hX h0 h kv (fun τ72 μ4 h => ?_)) o_fuel 0 μ3 (o_bdp h)
    · have h := o_if_t rfl (ke72 (177, τ72) μ4 (o_ne rfl) h)
      refine s_aload_n (i := 0) dX12_dayGoes_177 rfl rfl ?_
      refine s_getR hX h0 flX12_7 rfl dX12_dayGoes_178 (fun (g3 : o_is X (o_rf X a0 0) (.inr (0, 3756))) => ?_)
      refine s_bipush dX12_dayGoes_181 kB_7 ?_
      refine s_dup2 dX12_dayGoes_183 rfl rfl ?_
      refine s_ialdK g3 ⟨by decide, by decide⟩ kN_7 dX12_dayGoes_184 ?_
      refine s_iconst dX12_dayGoes_185 kI_1 ?_
      refine s_iadd dX12_dayGoes_186 ?_
      refine s_iastK hX g3 ⟨by decide, by decide⟩ kN_7 dX12_dayGoes_187 (o_gen h (fun μ5 h => ?_))
      refine s_aload_n (i := 0) dX12_dayGoes_188 rfl rfl ?_
      refine s_getR hX h0 flX12_7 rfl dX12_dayGoes_189 (fun (g4 : o_is X (o_rf X a0 0) (.inr (0, 3756))) => ?_)
      refine s_iconst dX12_dayGoes_192 kI_5 ?_
      refine s_ialdK g4 ⟨by decide, by decide⟩ kN_5 dX12_dayGoes_193 ?_
      exact s_ireturn rfl dX12_dayGoes_194 ⟨_, rfl, o_ret h⟩
theorem dX12_daysGo_0 : decode cX12_daysGo 0 = .ok (.iconst 0, 1) := by decide +kernel
theorem dX12_daysGo_1 : decode cX12_daysGo 1 = .ok (.istore_n 2, 1) := by decide +kernel
theorem dX12_daysGo_2 : decode cX12_daysGo 2 = .ok (.iconst 0, 1) := by decide +kernel
theorem dX12_daysGo_3 : decode cX12_daysGo 3 = .ok (.istore_n 3, 1) := by decide +kernel
theorem dX12_daysGo_4 : decode cX12_daysGo 4 = .ok (.iload_n 3, 1) := by decide +kernel
theorem dX12_daysGo_5 : decode cX12_daysGo 5 = .ok (.iload_n 1, 1) := by decide +kernel
theorem dX12_daysGo_6 : decode cX12_daysGo 6 = .ok (.if_icmp .ge 16, 3) := by decide +kernel
theorem dX12_daysGo_9 : decode cX12_daysGo 9 = .ok (.iload_n 2, 1) := by decide +kernel
theorem dX12_daysGo_10 : decode cX12_daysGo 10 = .ok (.aload_n 0, 1) := by decide +kernel
theorem dX12_daysGo_11 : decode cX12_daysGo 11 = .ok (.invokevirtual 345, 3) := by decide +kernel
theorem dX12_daysGo_14 : decode cX12_daysGo 14 = .ok (.iadd, 1) := by decide +kernel
theorem dX12_daysGo_15 : decode cX12_daysGo 15 = .ok (.istore_n 2, 1) := by decide +kernel
theorem dX12_daysGo_16 : decode cX12_daysGo 16 = .ok (.iinc 3 1, 3) := by decide +kernel
theorem dX12_daysGo_19 : decode cX12_daysGo 19 = .ok (.goto (-15), 3) := by decide +kernel
theorem dX12_daysGo_22 : decode cX12_daysGo 22 = .ok (.iload_n 2, 1) := by decide +kernel
theorem dX12_daysGo_23 : decode cX12_daysGo 23 = .ok (.ireturn, 1) := by decide +kernel
noncomputable def fX12_daysGo_s4 (rf : Nat → Nat → Nat) (a0 : Nat) (x1 : Int32) (τ4 : Int32 × Int32) (μ0 : o_Mem) : Option ((Nat × (Int32 × Int32)) × o_Mem) :=
  if x1 ≤ τ4.2 then (
    some ((22, (τ4.1, 0)), μ0))
  else (
    o_bd (fX12_dayGoes rf a0 μ0) fun r1 μ1 =>
    some ((4, ((τ4.1 + r1), (τ4.2 + 1))), μ1))
noncomputable def fX12_daysGo (rf : Nat → Nat → Nat) (a0 : Nat) (x1 : Int32) (μ0 : o_Mem) : Option (Int32 × o_Mem) :=
  o_bd (o_lp 4 (fX12_daysGo_s4 rf a0 x1) o_fuel (0, 0) μ0) fun ex1 μ1 =>
  if ex1.1 = 22 then (
    some (ex1.2.1, μ1))
  else
    none
set_option maxRecDepth 20000 in
theorem dnX12_daysGo_s4 {X : o_Cx} (hX : o_ok X) {d : Nat} {a0 : Nat} {x1 : Int32} {τ4 : Int32 × Int32} {μ0 : o_Mem} {K : (Nat × (Int32 × Int32)) → o_Mem → Prop} {Q : Option Value → o_Mem → Prop} (h0 : o_is X a0 (.inl 12)) (h : o_Post (fX12_daysGo_s4 (o_rf X) a0 x1 τ4 μ0) K) (kh : ∀ (τ4 : Int32 × Int32) (μ : o_Mem), K (4, τ4) μ → o_Ev X (d + 7) mX12_daysGo 4 [some (.ref (o_ad X a0)), some (.int x1), some (.int τ4.1), some (.int τ4.2)] [] μ Q) (k22 : ∀ (τ4 : Int32 × Int32) (μ : o_Mem), K (22, τ4) μ → o_Ev X (d + 7) mX12_daysGo 22 [none, none, some (.int τ4.1), none] [] μ Q) : o_Ev X (d + 7) mX12_daysGo 4 [some (.ref (o_ad X a0)), some (.int x1), some (.int τ4.1), some (.int τ4.2)] [] μ0 Q := by
  unfold fX12_daysGo_s4 at h
  refine s_iload_n (i := 3) dX12_daysGo_4 rfl rfl ?_
  refine s_iload_n (i := 1) dX12_daysGo_5 rfl rfl ?_
  refine s_icmp_ge (tgt := 22) dX12_daysGo_6 rfl (fun c1 => ?_) (fun c1 => ?_)
  · have h := o_if_t c1 h
    refine s_mask [false, false, true, false] (L' := [none, none, some (.int τ4.1), none]) rfl ?_
    exact k22 (τ4.1, 0) _ (o_ret h)
  · have h := o_if_f c1 h
    refine s_iload_n (i := 2) dX12_daysGo_9 rfl rfl ?_
    refine s_aload_n (i := 0) dX12_daysGo_10 rfl rfl ?_
    refine s_callVi (C := mX12_dayGoes) (As := []) (rest := [.int τ4.1]) (L0 := [some (.ref (o_ad X a0)), none, none, none]) hX h0 clX12_345 dX12_daysGo_11 rfl rfl (Nat.le_of_ble_eq_true rfl) (Nat.le_of_ble_eq_true rfl) (dnX12_dayGoes hX h0 (o_bdp h)) (fun r1 μ1 h => ?_)
    refine s_iadd dX12_daysGo_14 ?_
    refine s_istore_n (i := 2) dX12_daysGo_15 rfl (Nat.le_of_ble_eq_true rfl) rfl ?_
    refine s_iinc (v := (τ4.2 + 1)) dX12_daysGo_16 rfl rfl (Nat.le_of_ble_eq_true rfl) rfl ?_
    refine s_goto (tgt := 4) dX12_daysGo_19 rfl ?_
    refine s_mask [true, true, true, true] (L' := [some (.ref (o_ad X a0)), some (.int x1), some (.int (τ4.1 + r1)), some (.int (τ4.2 + 1))]) rfl ?_
    exact kh ((τ4.1 + r1), (τ4.2 + 1)) _ (o_ret h)
set_option maxRecDepth 20000 in
theorem dnX12_daysGo {X : o_Cx} (hX : o_ok X) {d : Nat} {a0 : Nat} {x1 : Int32} {μ0 : o_Mem} {q : Int32 → o_Mem → Prop} (h0 : o_is X a0 (.inl 12)) (h : o_Post (fX12_daysGo (o_rf X) a0 x1 μ0) q) : o_Ev X (d + 7) mX12_daysGo 0 [some (.ref (o_ad X a0)), some (.int x1), none, none] [] μ0 (o_QI q) := by
  unfold fX12_daysGo at h
  refine s_iconst dX12_daysGo_0 kI_0 ?_
  refine s_istore_n (i := 2) dX12_daysGo_1 rfl (Nat.le_of_ble_eq_true rfl) rfl ?_
  refine s_iconst dX12_daysGo_2 kI_0 ?_
  refine s_istore_n (i := 3) dX12_daysGo_3 rfl (Nat.le_of_ble_eq_true rfl) rfl ?_
  refine s_mask [true, true, true, true] (L' := [some (.ref (o_ad X a0)), some (.int x1), some (.int 0), some (.int 0)]) rfl ?_
  refine o_lp_ev (fun τ4 => [some (.ref (o_ad X a0)), some (.int x1), some (.int τ4.1), some (.int τ4.2)]) (fun τ4 μ _K h kv ke4 => dnX12_daysGo_s4 hX h0 h kv (fun τ4 μ1 h => ?_)) o_fuel (0, 0) μ0 (o_bdp h)
  · have h := o_if_t rfl (ke4 (22, τ4) μ1 (o_ne rfl) h)
    refine s_iload_n (i := 2) dX12_daysGo_22 rfl rfl ?_
    exact s_ireturn rfl dX12_daysGo_23 ⟨_, rfl, o_ret h⟩
theorem dX12_day_0 : decode cX12_day 0 = .ok (.iload_n 1, 1) := by decide +kernel
theorem dX12_day_1 : decode cX12_day 1 = .ok (.i2l, 1) := by decide +kernel
theorem dX12_day_2 : decode cX12_day 2 = .ok (.lconst 1, 1) := by decide +kernel
theorem dX12_day_3 : decode cX12_day 3 = .ok (.ldc2_w 272, 3) := by decide +kernel
theorem dX12_day_6 : decode cX12_day 6 = .ok (.invokestatic 348, 3) := by decide +kernel
theorem dX12_day_9 : decode cX12_day 9 = .ok (.ifCond .ne 9, 3) := by decide +kernel
theorem dX12_day_12 : decode cX12_day 12 = .ok (.aload_n 0, 1) := by decide +kernel
theorem dX12_day_13 : decode cX12_day 13 = .ok (.iconst 1, 1) := by decide +kernel
theorem dX12_day_14 : decode cX12_day 14 = .ok (.invokevirtual 87, 3) := by decide +kernel
theorem dX12_day_17 : decode cX12_day 17 = .ok (.ireturn, 1) := by decide +kernel
theorem dX12_day_18 : decode cX12_day 18 = .ok (.aload_n 0, 1) := by decide +kernel
theorem dX12_day_19 : decode cX12_day 19 = .ok (.getfield 7, 3) := by decide +kernel
theorem dX12_day_22 : decode cX12_day 22 = .ok (.bipush 7, 2) := by decide +kernel
theorem dX12_day_24 : decode cX12_day 24 = .ok (.iaload, 1) := by decide +kernel
theorem dX12_day_25 : decode cX12_day 25 = .ok (.iload_n 1, 1) := by decide +kernel
theorem dX12_day_26 : decode cX12_day 26 = .ok (.iadd, 1) := by decide +kernel
theorem dX12_day_27 : decode cX12_day 27 = .ok (.sipush 9999, 3) := by decide +kernel
theorem dX12_day_30 : decode cX12_day 30 = .ok (.if_icmp .le 11, 3) := by decide +kernel
theorem dX12_day_33 : decode cX12_day 33 = .ok (.aload_n 0, 1) := by decide +kernel
theorem dX12_day_34 : decode cX12_day 34 = .ok (.iconst 4, 1) := by decide +kernel
theorem dX12_day_35 : decode cX12_day 35 = .ok (.invokevirtual 87, 3) := by decide +kernel
theorem dX12_day_38 : decode cX12_day 38 = .ok (.goto 12, 3) := by decide +kernel
theorem dX12_day_41 : decode cX12_day 41 = .ok (.aload_n 0, 1) := by decide +kernel
theorem dX12_day_42 : decode cX12_day 42 = .ok (.aload_n 0, 1) := by decide +kernel
theorem dX12_day_43 : decode cX12_day 43 = .ok (.iload_n 1, 1) := by decide +kernel
theorem dX12_day_44 : decode cX12_day 44 = .ok (.invokevirtual 352, 3) := by decide +kernel
theorem dX12_day_47 : decode cX12_day 47 = .ok (.invokevirtual 91, 3) := by decide +kernel
theorem dX12_day_50 : decode cX12_day 50 = .ok (.ireturn, 1) := by decide +kernel
noncomputable def fX12_day (rf : Nat → Nat → Nat) (a0 : Nat) (x1 : Int32) (μ0 : o_Mem) : Option (Int32 × o_Mem) :=
  o_bd (fX12_isFrom rf x1.toInt64 (1 : Int64) (99 : Int64) μ0) fun r1 μ1 =>
  if r1 = 0 then (
    o_bd (fX12_refuse rf a0 1 μ1) fun r5 μ5 =>
    some (r5, μ5))
  else (
    if ((μ1.1 (rf a0 0) 7) + x1) ≤ 9999 then (
      o_bd (fX12_daysGo rf a0 x1 μ1) fun r2 μ2 =>
      o_bd (fX12_gives rf a0 r2 μ2) fun r3 μ3 =>
      some (r3, μ3))
    else (
      o_bd (fX12_refuse rf a0 4 μ1) fun r4 μ4 =>
      some (r4, μ4)))
set_option maxRecDepth 20000 in
theorem dnX12_day {X : o_Cx} (hX : o_ok X) {d : Nat} {a0 : Nat} {x1 : Int32} {μ0 : o_Mem} {q : Int32 → o_Mem → Prop} (h0 : o_is X a0 (.inl 12)) (h : o_Post (fX12_day (o_rf X) a0 x1 μ0) q) : o_Ev X (d + 8) mX12_day 0 [some (.ref (o_ad X a0)), some (.int x1)] [] μ0 (o_QI q) := by
  unfold fX12_day at h
  refine s_iload_n (i := 1) dX12_day_0 rfl rfl ?_
  refine s_i2l dX12_day_1 ?_
  refine s_lconst (v := 1) dX12_day_2 rfl ?_
  refine s_ldc2 (v := 99) w_8_42 dX12_day_3 ?_
  refine s_callSz (C := mX12_isFrom) (As := [.long x1.toInt64, .long (1 : Int64), .long (99 : Int64)]) (rest := []) (L0 := [some (.long x1.toInt64), none, some (.long (1 : Int64)), none, some (.long (99 : Int64)), none]) clX12_348 dX12_day_6 rfl rfl (Nat.le_of_ble_eq_true rfl) (Nat.le_of_ble_eq_true rfl) (dnX12_isFrom hX  (o_bdp h)) (fun r1 μ1 zr1 h => ?_)
  refine s_if_ne (tgt := 18) dX12_day_9 rfl (fun c1 => ?_) (fun c1 => ?_)
  · have h := o_if_f c1 h
    refine s_aload_n (i := 0) dX12_day_18 rfl rfl ?_
    refine s_getR hX h0 flX12_7 rfl dX12_day_19 (fun (g1 : o_is X (o_rf X a0 0) (.inr (0, 3756))) => ?_)
    refine s_bipush dX12_day_22 kB_7 ?_
    refine s_ialdK g1 ⟨by decide, by decide⟩ kN_7 dX12_day_24 ?_
    refine s_iload_n (i := 1) dX12_day_25 rfl rfl ?_
    refine s_iadd dX12_day_26 ?_
    refine s_sipush dX12_day_27 kS_9999 ?_
    refine s_icmp_le (tgt := 41) dX12_day_30 rfl (fun c1 => ?_) (fun c1 => ?_)
    · have h := o_if_t c1 h
      refine s_aload_n (i := 0) dX12_day_41 rfl rfl ?_
      refine s_aload_n (i := 0) dX12_day_42 rfl rfl ?_
      refine s_iload_n (i := 1) dX12_day_43 rfl rfl ?_
      refine s_callVi (C := mX12_daysGo) (As := [.int x1]) (rest := [.ref (o_ad X a0)]) (L0 := [some (.ref (o_ad X a0)), some (.int x1), none, none]) hX h0 clX12_352 dX12_day_44 rfl rfl (Nat.le_of_ble_eq_true rfl) (Nat.le_of_ble_eq_true rfl) (dnX12_daysGo hX h0 (o_bdp h)) (fun r2 μ2 h => ?_)
      refine s_callVi (C := mX12_gives) (As := [.int r2]) (rest := []) (L0 := [some (.ref (o_ad X a0)), some (.int r2)]) hX h0 clX12_91 dX12_day_47 rfl rfl (Nat.le_of_ble_eq_true rfl) (Nat.le_of_ble_eq_true rfl) (dnX12_gives hX h0 (o_bdp h)) (fun r3 μ3 h => ?_)
      exact s_ireturn rfl dX12_day_50 ⟨_, rfl, o_ret h⟩
    · have h := o_if_f c1 h
      refine s_aload_n (i := 0) dX12_day_33 rfl rfl ?_
      refine s_iconst dX12_day_34 kI_4 ?_
      refine s_callVi (C := mX12_refuse) (As := [.int 4]) (rest := []) (L0 := [some (.ref (o_ad X a0)), some (.int 4)]) hX h0 clX12_87 dX12_day_35 rfl rfl (Nat.le_of_ble_eq_true rfl) (Nat.le_of_ble_eq_true rfl) (dnX12_refuse hX h0 (o_bdp h)) (fun r4 μ4 h => ?_)
      refine s_goto (tgt := 50) dX12_day_38 rfl ?_
      exact s_ireturn rfl dX12_day_50 ⟨_, rfl, o_ret h⟩
  · have h := o_if_t c1 h
    refine s_aload_n (i := 0) dX12_day_12 rfl rfl ?_
    refine s_iconst dX12_day_13 kI_1 ?_
    refine s_callVi (C := mX12_refuse) (As := [.int 1]) (rest := []) (L0 := [some (.ref (o_ad X a0)), some (.int 1)]) hX h0 clX12_87 dX12_day_14 rfl rfl (Nat.le_of_ble_eq_true rfl) (Nat.le_of_ble_eq_true rfl) (dnX12_refuse hX h0 (o_bdp h)) (fun r5 μ5 h => ?_)
    exact s_ireturn rfl dX12_day_17 ⟨_, rfl, o_ret h⟩
theorem dX12_drink_0 : decode cX12_drink 0 = .ok (.aload_n 0, 1) := by decide +kernel
theorem dX12_drink_1 : decode cX12_drink 1 = .ok (.getfield 7, 3) := by decide +kernel
theorem dX12_drink_4 : decode cX12_drink 4 = .ok (.bipush 8, 2) := by decide +kernel
theorem dX12_drink_6 : decode cX12_drink 6 = .ok (.iaload, 1) := by decide +kernel
theorem dX12_drink_7 : decode cX12_drink 7 = .ok (.iconst 1, 1) := by decide +kernel
theorem dX12_drink_8 : decode cX12_drink 8 = .ok (.if_icmp .ne 7, 3) := by decide +kernel
theorem dX12_drink_11 : decode cX12_drink 11 = .ok (.iconst 1, 1) := by decide +kernel
theorem dX12_drink_12 : decode cX12_drink 12 = .ok (.goto 4, 3) := by decide +kernel
theorem dX12_drink_15 : decode cX12_drink 15 = .ok (.iconst 0, 1) := by decide +kernel
theorem dX12_drink_16 : decode cX12_drink 16 = .ok (.iload_n 1, 1) := by decide +kernel
theorem dX12_drink_17 : decode cX12_drink 17 = .ok (.if_icmp .ne 10, 3) := by decide +kernel
theorem dX12_drink_20 : decode cX12_drink 20 = .ok (.aload_n 0, 1) := by decide +kernel
theorem dX12_drink_21 : decode cX12_drink 21 = .ok (.bipush 7, 2) := by decide +kernel
theorem dX12_drink_23 : decode cX12_drink 23 = .ok (.invokevirtual 94, 3) := by decide +kernel
theorem dX12_drink_26 : decode cX12_drink 26 = .ok (.ireturn, 1) := by decide +kernel
theorem dX12_drink_27 : decode cX12_drink 27 = .ok (.aload_n 0, 1) := by decide +kernel
theorem dX12_drink_28 : decode cX12_drink 28 = .ok (.getfield 7, 3) := by decide +kernel
theorem dX12_drink_31 : decode cX12_drink 31 = .ok (.bipush 8, 2) := by decide +kernel
theorem dX12_drink_33 : decode cX12_drink 33 = .ok (.iload_n 1, 1) := by decide +kernel
theorem dX12_drink_34 : decode cX12_drink 34 = .ok (.ifCond .eq 7, 3) := by decide +kernel
theorem dX12_drink_37 : decode cX12_drink 37 = .ok (.iconst 1, 1) := by decide +kernel
theorem dX12_drink_38 : decode cX12_drink 38 = .ok (.goto 4, 3) := by decide +kernel
theorem dX12_drink_41 : decode cX12_drink 41 = .ok (.iconst 0, 1) := by decide +kernel
theorem dX12_drink_42 : decode cX12_drink 42 = .ok (.iastore, 1) := by decide +kernel
theorem dX12_drink_43 : decode cX12_drink 43 = .ok (.aload_n 0, 1) := by decide +kernel
theorem dX12_drink_44 : decode cX12_drink 44 = .ok (.iconst 0, 1) := by decide +kernel
theorem dX12_drink_45 : decode cX12_drink 45 = .ok (.invokevirtual 94, 3) := by decide +kernel
theorem dX12_drink_48 : decode cX12_drink 48 = .ok (.ireturn, 1) := by decide +kernel
noncomputable def fX12_drink_j42 (rf : Nat → Nat → Nat) (a0 : Nat) (b0 : Nat) (y1 : Int32) (y2 : Int32) (μ0 : o_Mem) : Option (Int32 × o_Mem) :=
  o_ck (0 ≤ (y1).toInt ∧ (y1).toInt < 3756) <|
  o_seq (o_wI μ0 b0 y1.toNatClampNeg y2) fun μ1 =>
  o_bd (fX12_is rf a0 0 μ1) fun r1 μ2 =>
  some (r1, μ2)
noncomputable def fX12_drink_j16 (rf : Nat → Nat → Nat) (a0 : Nat) (x1 : Int32) (y0 : Int32) (μ0 : o_Mem) : Option (Int32 × o_Mem) :=
  if y0 = x1 then (
    o_bd (fX12_is rf a0 7 μ0) fun r1 μ1 =>
    some (r1, μ1))
  else (
    if x1 = 0 then (
      fX12_drink_j42 rf a0 (rf a0 0) 8 0 μ0)
    else (
      fX12_drink_j42 rf a0 (rf a0 0) 8 1 μ0))
noncomputable def fX12_drink (rf : Nat → Nat → Nat) (a0 : Nat) (x1 : Int32) (μ0 : o_Mem) : Option (Int32 × o_Mem) :=
  if (μ0.1 (rf a0 0) 8) = 1 then (
    fX12_drink_j16 rf a0 x1 1 μ0)
  else (
    fX12_drink_j16 rf a0 x1 0 μ0)
set_option maxRecDepth 20000 in
theorem dnX12_drink_j42 {X : o_Cx} (hX : o_ok X) {d : Nat} {a0 : Nat} {b0 : Nat} {y1 : Int32} {y2 : Int32} {μ0 : o_Mem} {q : Int32 → o_Mem → Prop} (h0 : o_is X a0 (.inl 12)) (hb0 : o_is X b0 (.inr (0, 3756))) (h : o_Post (fX12_drink_j42 (o_rf X) a0 b0 y1 y2 μ0) q) : o_Ev X (d + 1) mX12_drink 42 [some (.ref (o_ad X a0)), none] [.int y2, .int y1, .ref (o_ad X b0)] μ0 (o_QZ q) := by
  unfold fX12_drink_j42 at h
  have hc := o_ck_c h
  have h := o_ck_k h
  refine s_iastK hX hb0 hc rfl dX12_drink_42 (o_gen h (fun μ1 h => ?_))
  refine s_aload_n (i := 0) dX12_drink_43 rfl rfl ?_
  refine s_iconst dX12_drink_44 kI_0 ?_
  refine s_callVz (C := mX12_is) (As := [.int 0]) (rest := []) (L0 := [some (.ref (o_ad X a0)), some (.int 0)]) hX h0 clX12_94 dX12_drink_45 rfl rfl (Nat.le_of_ble_eq_true rfl) (Nat.le_of_ble_eq_true rfl) (dnX12_is hX h0 (o_bdp h)) (fun r1 μ2 zr1 h => ?_)
  exact s_zreturn rfl zr1 dX12_drink_48 ⟨_, rfl, zr1, o_ret h⟩
set_option maxRecDepth 20000 in
theorem dnX12_drink_j16 {X : o_Cx} (hX : o_ok X) {d : Nat} {a0 : Nat} {x1 : Int32} {y0 : Int32} {μ0 : o_Mem} {q : Int32 → o_Mem → Prop} (h0 : o_is X a0 (.inl 12)) (h : o_Post (fX12_drink_j16 (o_rf X) a0 x1 y0 μ0) q) : o_Ev X (d + 1) mX12_drink 16 [some (.ref (o_ad X a0)), some (.int x1)] [.int y0] μ0 (o_QZ q) := by
  unfold fX12_drink_j16 at h
  refine s_iload_n (i := 1) dX12_drink_16 rfl rfl ?_
  refine s_icmp_ne (tgt := 27) dX12_drink_17 rfl (fun c1 => ?_) (fun c1 => ?_)
  · have h := o_if_f c1 h
    refine s_aload_n (i := 0) dX12_drink_27 rfl rfl ?_
    refine s_getR hX h0 flX12_7 rfl dX12_drink_28 (fun (g1 : o_is X (o_rf X a0 0) (.inr (0, 3756))) => ?_)
    refine s_bipush dX12_drink_31 kB_8 ?_
    refine s_iload_n (i := 1) dX12_drink_33 rfl rfl ?_
    refine s_if_eq (tgt := 41) dX12_drink_34 rfl (fun c1 => ?_) (fun c1 => ?_)
    · have h := o_if_t c1 h
      refine s_iconst dX12_drink_41 kI_0 ?_
      refine s_mask [true, false] (L' := [some (.ref (o_ad X a0)), none]) rfl ?_
      exact dnX12_drink_j42 hX h0 g1 h
    · have h := o_if_f c1 h
      refine s_iconst dX12_drink_37 kI_1 ?_
      refine s_goto (tgt := 42) dX12_drink_38 rfl ?_
      refine s_mask [true, false] (L' := [some (.ref (o_ad X a0)), none]) rfl ?_
      exact dnX12_drink_j42 hX h0 g1 h
  · have h := o_if_t c1 h
    refine s_aload_n (i := 0) dX12_drink_20 rfl rfl ?_
    refine s_bipush dX12_drink_21 kB_7 ?_
    refine s_callVz (C := mX12_is) (As := [.int 7]) (rest := []) (L0 := [some (.ref (o_ad X a0)), some (.int 7)]) hX h0 clX12_94 dX12_drink_23 rfl rfl (Nat.le_of_ble_eq_true rfl) (Nat.le_of_ble_eq_true rfl) (dnX12_is hX h0 (o_bdp h)) (fun r1 μ1 zr1 h => ?_)
    exact s_zreturn rfl zr1 dX12_drink_26 ⟨_, rfl, zr1, o_ret h⟩
set_option maxRecDepth 20000 in
theorem dnX12_drink {X : o_Cx} (hX : o_ok X) {d : Nat} {a0 : Nat} {x1 : Int32} {μ0 : o_Mem} {q : Int32 → o_Mem → Prop} (h0 : o_is X a0 (.inl 12)) (h : o_Post (fX12_drink (o_rf X) a0 x1 μ0) q) : o_Ev X (d + 1) mX12_drink 0 [some (.ref (o_ad X a0)), some (.int x1)] [] μ0 (o_QZ q) := by
  unfold fX12_drink at h
  refine s_aload_n (i := 0) dX12_drink_0 rfl rfl ?_
  refine s_getR hX h0 flX12_7 rfl dX12_drink_1 (fun (g1 : o_is X (o_rf X a0 0) (.inr (0, 3756))) => ?_)
  refine s_bipush dX12_drink_4 kB_8 ?_
  refine s_ialdK g1 ⟨by decide, by decide⟩ kN_8 dX12_drink_6 ?_
  refine s_iconst dX12_drink_7 kI_1 ?_
  refine s_icmp_ne (tgt := 15) dX12_drink_8 rfl (fun c1 => ?_) (fun c1 => ?_)
  · have h := o_if_f c1 h
    refine s_iconst dX12_drink_15 kI_0 ?_
    refine s_mask [true, true] (L' := [some (.ref (o_ad X a0)), some (.int x1)]) rfl ?_
    exact dnX12_drink_j16 hX h0 h
  · have h := o_if_t c1 h
    refine s_iconst dX12_drink_11 kI_1 ?_
    refine s_goto (tgt := 16) dX12_drink_12 rfl ?_
    refine s_mask [true, true] (L' := [some (.ref (o_ad X a0)), some (.int x1)]) rfl ?_
    exact dnX12_drink_j16 hX h0 h
theorem dX12_take_0 : decode cX12_take 0 = .ok (.aload_n 0, 1) := by decide +kernel
theorem dX12_take_1 : decode cX12_take 1 = .ok (.iload_n 1, 1) := by decide +kernel
theorem dX12_take_2 : decode cX12_take 2 = .ok (.invokevirtual 305, 3) := by decide +kernel
theorem dX12_take_5 : decode cX12_take 5 = .ok (.ifCond .ne 9, 3) := by decide +kernel
theorem dX12_take_8 : decode cX12_take 8 = .ok (.aload_n 0, 1) := by decide +kernel
theorem dX12_take_9 : decode cX12_take 9 = .ok (.iconst 1, 1) := by decide +kernel
theorem dX12_take_10 : decode cX12_take 10 = .ok (.invokevirtual 87, 3) := by decide +kernel
theorem dX12_take_13 : decode cX12_take 13 = .ok (.ireturn, 1) := by decide +kernel
theorem dX12_take_14 : decode cX12_take 14 = .ok (.iload_n 1, 1) := by decide +kernel
theorem dX12_take_15 : decode cX12_take 15 = .ok (.invokestatic 308, 3) := by decide +kernel
theorem dX12_take_18 : decode cX12_take 18 = .ok (.istore_n 2, 1) := by decide +kernel
theorem dX12_take_19 : decode cX12_take 19 = .ok (.iload_n 2, 1) := by decide +kernel
theorem dX12_take_20 : decode cX12_take 20 = .ok (.bipush 11, 2) := by decide +kernel
theorem dX12_take_22 : decode cX12_take 22 = .ok (.invokestatic 308, 3) := by decide +kernel
theorem dX12_take_25 : decode cX12_take 25 = .ok (.if_icmp .ge 23, 3) := by decide +kernel
theorem dX12_take_28 : decode cX12_take 28 = .ok (.aload_n 0, 1) := by decide +kernel
theorem dX12_take_29 : decode cX12_take 29 = .ok (.getfield 7, 3) := by decide +kernel
theorem dX12_take_32 : decode cX12_take 32 = .ok (.iload_n 2, 1) := by decide +kernel
theorem dX12_take_33 : decode cX12_take 33 = .ok (.aload_n 0, 1) := by decide +kernel
theorem dX12_take_34 : decode cX12_take 34 = .ok (.getfield 7, 3) := by decide +kernel
theorem dX12_take_37 : decode cX12_take 37 = .ok (.iload_n 2, 1) := by decide +kernel
theorem dX12_take_38 : decode cX12_take 38 = .ok (.iconst 4, 1) := by decide +kernel
theorem dX12_take_39 : decode cX12_take 39 = .ok (.iadd, 1) := by decide +kernel
theorem dX12_take_40 : decode cX12_take 40 = .ok (.iaload, 1) := by decide +kernel
theorem dX12_take_41 : decode cX12_take 41 = .ok (.iastore, 1) := by decide +kernel
theorem dX12_take_42 : decode cX12_take 42 = .ok (.iinc 2 1, 3) := by decide +kernel
theorem dX12_take_45 : decode cX12_take 45 = .ok (.goto (-26), 3) := by decide +kernel
theorem dX12_take_48 : decode cX12_take 48 = .ok (.aload_n 0, 1) := by decide +kernel
theorem dX12_take_49 : decode cX12_take 49 = .ok (.getfield 7, 3) := by decide +kernel
theorem dX12_take_52 : decode cX12_take 52 = .ok (.iconst 4, 1) := by decide +kernel
theorem dX12_take_53 : decode cX12_take 53 = .ok (.dup2, 1) := by decide +kernel
theorem dX12_take_54 : decode cX12_take 54 = .ok (.iaload, 1) := by decide +kernel
theorem dX12_take_55 : decode cX12_take 55 = .ok (.iconst 1, 1) := by decide +kernel
theorem dX12_take_56 : decode cX12_take 56 = .ok (.isub, 1) := by decide +kernel
theorem dX12_take_57 : decode cX12_take 57 = .ok (.iastore, 1) := by decide +kernel
theorem dX12_take_58 : decode cX12_take 58 = .ok (.aload_n 0, 1) := by decide +kernel
theorem dX12_take_59 : decode cX12_take 59 = .ok (.aload_n 0, 1) := by decide +kernel
theorem dX12_take_60 : decode cX12_take 60 = .ok (.getfield 7, 3) := by decide +kernel
theorem dX12_take_63 : decode cX12_take 63 = .ok (.iconst 4, 1) := by decide +kernel
theorem dX12_take_64 : decode cX12_take 64 = .ok (.iaload, 1) := by decide +kernel
theorem dX12_take_65 : decode cX12_take 65 = .ok (.invokevirtual 91, 3) := by decide +kernel
theorem dX12_take_68 : decode cX12_take 68 = .ok (.ireturn, 1) := by decide +kernel
noncomputable def fX12_take_s19 (rf : Nat → Nat → Nat) (a0 : Nat) (τ19 : Int32) (μ0 : o_Mem) : Option ((Nat × (Int32)) × o_Mem) :=
  o_bd (fX12_letterRow rf 11 μ0) fun r1 μ1 =>
  if r1 ≤ τ19 then (
    some ((48, 0), μ1))
  else (
    o_ck (0 ≤ ((τ19 + 4)).toInt ∧ ((τ19 + 4)).toInt < 3756) <|
    o_ck (0 ≤ (τ19).toInt ∧ (τ19).toInt < 3756) <|
    o_seq (o_wI μ1 (rf a0 0) τ19.toNatClampNeg (μ1.1 (rf a0 0) ((τ19 + 4)).toNatClampNeg)) fun μ2 =>
    some ((19, (τ19 + 1)), μ2))
noncomputable def fX12_take (rf : Nat → Nat → Nat) (a0 : Nat) (x1 : Int32) (μ0 : o_Mem) : Option (Int32 × o_Mem) :=
  o_bd (fX12_isLetter rf a0 x1 μ0) fun r1 μ1 =>
  if r1 = 0 then (
    o_bd (fX12_refuse rf a0 1 μ1) fun r4 μ6 =>
    some (r4, μ6))
  else (
    o_bd (fX12_letterRow rf x1 μ1) fun r2 μ2 =>
    o_bd (o_lp 19 (fX12_take_s19 rf a0) o_fuel (r2 : Int32) μ2) fun ex3 μ3 =>
    if ex3.1 = 48 then (
      o_seq (o_wI μ3 (rf a0 0) 4 ((μ3.1 (rf a0 0) 4) - 1)) fun μ4 =>
      o_bd (fX12_gives rf a0 (μ4.1 (rf a0 0) 4) μ4) fun r3 μ5 =>
      some (r3, μ5))
    else
      none)
set_option maxRecDepth 20000 in
theorem dnX12_take_s19 {X : o_Cx} (hX : o_ok X) {d : Nat} {a0 : Nat} {τ19 : Int32} {μ0 : o_Mem} {K : (Nat × (Int32)) → o_Mem → Prop} {Q : Option Value → o_Mem → Prop} (h0 : o_is X a0 (.inl 12)) (h : o_Post (fX12_take_s19 (o_rf X) a0 τ19 μ0) K) (kh : ∀ (τ19 : Int32) (μ : o_Mem), K (19, τ19) μ → o_Ev X (d + 1) mX12_take 19 [some (.ref (o_ad X a0)), none, some (.int τ19)] [] μ Q) (k48 : ∀ (τ19 : Int32) (μ : o_Mem), K (48, τ19) μ → o_Ev X (d + 1) mX12_take 48 [some (.ref (o_ad X a0)), none, none] [] μ Q) : o_Ev X (d + 1) mX12_take 19 [some (.ref (o_ad X a0)), none, some (.int τ19)] [] μ0 Q := by
  unfold fX12_take_s19 at h
  refine s_iload_n (i := 2) dX12_take_19 rfl rfl ?_
  refine s_bipush dX12_take_20 kB_11 ?_
  refine s_callSi (C := mX12_letterRow) (As := [.int 11]) (rest := [.int τ19]) (L0 := [some (.int 11)]) clX12_308 dX12_take_22 rfl rfl (Nat.le_of_ble_eq_true rfl) (Nat.le_of_ble_eq_true rfl) (dnX12_letterRow hX  (o_bdp h)) (fun r1 μ1 h => ?_)
  refine s_icmp_ge (tgt := 48) dX12_take_25 rfl (fun c1 => ?_) (fun c1 => ?_)
  · have h := o_if_t c1 h
    refine s_mask [true, false, false] (L' := [some (.ref (o_ad X a0)), none, none]) rfl ?_
    exact k48 0 _ (o_ret h)
  · have h := o_if_f c1 h
    refine s_aload_n (i := 0) dX12_take_28 rfl rfl ?_
    refine s_getR hX h0 flX12_7 rfl dX12_take_29 (fun (g1 : o_is X (o_rf X a0 0) (.inr (0, 3756))) => ?_)
    refine s_iload_n (i := 2) dX12_take_32 rfl rfl ?_
    refine s_aload_n (i := 0) dX12_take_33 rfl rfl ?_
    refine s_getR hX h0 flX12_7 rfl dX12_take_34 (fun (g2 : o_is X (o_rf X a0 0) (.inr (0, 3756))) => ?_)
    refine s_iload_n (i := 2) dX12_take_37 rfl rfl ?_
    refine s_iconst dX12_take_38 kI_4 ?_
    refine s_iadd dX12_take_39 ?_
    have hc := o_ck_c h
    have h := o_ck_k h
    refine s_ialdK g2 hc rfl dX12_take_40 ?_
    have hc := o_ck_c h
    have h := o_ck_k h
    refine s_iastK hX g1 hc rfl dX12_take_41 (o_gen h (fun μ2 h => ?_))
    refine s_iinc (v := (τ19 + 1)) dX12_take_42 rfl rfl (Nat.le_of_ble_eq_true rfl) rfl ?_
    refine s_goto (tgt := 19) dX12_take_45 rfl ?_
    refine s_mask [true, false, true] (L' := [some (.ref (o_ad X a0)), none, some (.int (τ19 + 1))]) rfl ?_
    exact kh (τ19 + 1) _ (o_ret h)
set_option maxRecDepth 20000 in
theorem dnX12_take {X : o_Cx} (hX : o_ok X) {d : Nat} {a0 : Nat} {x1 : Int32} {μ0 : o_Mem} {q : Int32 → o_Mem → Prop} (h0 : o_is X a0 (.inl 12)) (h : o_Post (fX12_take (o_rf X) a0 x1 μ0) q) : o_Ev X (d + 1) mX12_take 0 [some (.ref (o_ad X a0)), some (.int x1), none] [] μ0 (o_QI q) := by
  unfold fX12_take at h
  refine s_aload_n (i := 0) dX12_take_0 rfl rfl ?_
  refine s_iload_n (i := 1) dX12_take_1 rfl rfl ?_
  refine s_callVz (C := mX12_isLetter) (As := [.int x1]) (rest := []) (L0 := [some (.ref (o_ad X a0)), some (.int x1)]) hX h0 clX12_305 dX12_take_2 rfl rfl (Nat.le_of_ble_eq_true rfl) (Nat.le_of_ble_eq_true rfl) (dnX12_isLetter hX h0 (o_bdp h)) (fun r1 μ1 zr1 h => ?_)
  refine s_if_ne (tgt := 14) dX12_take_5 rfl (fun c1 => ?_) (fun c1 => ?_)
  · have h := o_if_f c1 h
    refine s_iload_n (i := 1) dX12_take_14 rfl rfl ?_
    refine s_callSi (C := mX12_letterRow) (As := [.int x1]) (rest := []) (L0 := [some (.int x1)]) clX12_308 dX12_take_15 rfl rfl (Nat.le_of_ble_eq_true rfl) (Nat.le_of_ble_eq_true rfl) (dnX12_letterRow hX  (o_bdp h)) (fun r2 μ2 h => ?_)
    refine s_istore_n (i := 2) dX12_take_18 rfl (Nat.le_of_ble_eq_true rfl) rfl ?_
    refine s_mask [true, false, true] (L' := [some (.ref (o_ad X a0)), none, some (.int r2)]) rfl ?_
    refine o_lp_ev (fun τ19 => [some (.ref (o_ad X a0)), none, some (.int τ19)]) (fun τ19 μ _K h kv ke19 => dnX12_take_s19 hX h0 h kv (fun τ19 μ3 h => ?_)) o_fuel r2 μ2 (o_bdp h)
    · have h := o_if_t rfl (ke19 (48, τ19) μ3 (o_ne rfl) h)
      refine s_aload_n (i := 0) dX12_take_48 rfl rfl ?_
      refine s_getR hX h0 flX12_7 rfl dX12_take_49 (fun (g1 : o_is X (o_rf X a0 0) (.inr (0, 3756))) => ?_)
      refine s_iconst dX12_take_52 kI_4 ?_
      refine s_dup2 dX12_take_53 rfl rfl ?_
      refine s_ialdK g1 ⟨by decide, by decide⟩ kN_4 dX12_take_54 ?_
      refine s_iconst dX12_take_55 kI_1 ?_
      refine s_isub dX12_take_56 ?_
      refine s_iastK hX g1 ⟨by decide, by decide⟩ kN_4 dX12_take_57 (o_gen h (fun μ4 h => ?_))
      refine s_aload_n (i := 0) dX12_take_58 rfl rfl ?_
      refine s_aload_n (i := 0) dX12_take_59 rfl rfl ?_
      refine s_getR hX h0 flX12_7 rfl dX12_take_60 (fun (g2 : o_is X (o_rf X a0 0) (.inr (0, 3756))) => ?_)
      refine s_iconst dX12_take_63 kI_4 ?_
      refine s_ialdK g2 ⟨by decide, by decide⟩ kN_4 dX12_take_64 ?_
      refine s_callVi (C := mX12_gives) (As := [.int (μ4.1 (o_rf X a0 0) 4)]) (rest := []) (L0 := [some (.ref (o_ad X a0)), some (.int (μ4.1 (o_rf X a0 0) 4))]) hX h0 clX12_91 dX12_take_65 rfl rfl (Nat.le_of_ble_eq_true rfl) (Nat.le_of_ble_eq_true rfl) (dnX12_gives hX h0 (o_bdp h)) (fun r3 μ5 h => ?_)
      exact s_ireturn rfl dX12_take_68 ⟨_, rfl, o_ret h⟩
  · have h := o_if_t c1 h
    refine s_aload_n (i := 0) dX12_take_8 rfl rfl ?_
    refine s_iconst dX12_take_9 kI_1 ?_
    refine s_callVi (C := mX12_refuse) (As := [.int 1]) (rest := []) (L0 := [some (.ref (o_ad X a0)), some (.int 1)]) hX h0 clX12_87 dX12_take_10 rfl rfl (Nat.le_of_ble_eq_true rfl) (Nat.le_of_ble_eq_true rfl) (dnX12_refuse hX h0 (o_bdp h)) (fun r4 μ6 h => ?_)
    exact s_ireturn rfl dX12_take_13 ⟨_, rfl, o_ret h⟩
theorem dX12_wrapped_0 : decode cX12_wrapped 0 = .ok (.aload_n 0, 1) := by decide +kernel
theorem dX12_wrapped_1 : decode cX12_wrapped 1 = .ok (.iload_n 1, 1) := by decide +kernel
theorem dX12_wrapped_2 : decode cX12_wrapped 2 = .ok (.invokevirtual 305, 3) := by decide +kernel
theorem dX12_wrapped_5 : decode cX12_wrapped 5 = .ok (.ifCond .eq 15, 3) := by decide +kernel
theorem dX12_wrapped_8 : decode cX12_wrapped 8 = .ok (.iload_n 2, 1) := by decide +kernel
theorem dX12_wrapped_9 : decode cX12_wrapped 9 = .ok (.i2l, 1) := by decide +kernel
theorem dX12_wrapped_10 : decode cX12_wrapped 10 = .ok (.lconst 1, 1) := by decide +kernel
theorem dX12_wrapped_11 : decode cX12_wrapped 11 = .ok (.ldc2_w 355, 3) := by decide +kernel
theorem dX12_wrapped_14 : decode cX12_wrapped 14 = .ok (.invokestatic 348, 3) := by decide +kernel
theorem dX12_wrapped_17 : decode cX12_wrapped 17 = .ok (.ifCond .ne 9, 3) := by decide +kernel
theorem dX12_wrapped_20 : decode cX12_wrapped 20 = .ok (.aload_n 0, 1) := by decide +kernel
theorem dX12_wrapped_21 : decode cX12_wrapped 21 = .ok (.iconst 1, 1) := by decide +kernel
theorem dX12_wrapped_22 : decode cX12_wrapped 22 = .ok (.invokevirtual 87, 3) := by decide +kernel
theorem dX12_wrapped_25 : decode cX12_wrapped 25 = .ok (.ireturn, 1) := by decide +kernel
theorem dX12_wrapped_26 : decode cX12_wrapped 26 = .ok (.iload_n 1, 1) := by decide +kernel
theorem dX12_wrapped_27 : decode cX12_wrapped 27 = .ok (.invokestatic 308, 3) := by decide +kernel
theorem dX12_wrapped_30 : decode cX12_wrapped 30 = .ok (.iconst 2, 1) := by decide +kernel
theorem dX12_wrapped_31 : decode cX12_wrapped 31 = .ok (.iadd, 1) := by decide +kernel
theorem dX12_wrapped_32 : decode cX12_wrapped 32 = .ok (.istore_n 3, 1) := by decide +kernel
theorem dX12_wrapped_33 : decode cX12_wrapped 33 = .ok (.aload_n 0, 1) := by decide +kernel
theorem dX12_wrapped_34 : decode cX12_wrapped 34 = .ok (.getfield 7, 3) := by decide +kernel
theorem dX12_wrapped_37 : decode cX12_wrapped 37 = .ok (.iload_n 3, 1) := by decide +kernel
theorem dX12_wrapped_38 : decode cX12_wrapped 38 = .ok (.iaload, 1) := by decide +kernel
theorem dX12_wrapped_39 : decode cX12_wrapped 39 = .ok (.iload_n 2, 1) := by decide +kernel
theorem dX12_wrapped_40 : decode cX12_wrapped 40 = .ok (.iadd, 1) := by decide +kernel
theorem dX12_wrapped_41 : decode cX12_wrapped 41 = .ok (.bipush 99, 2) := by decide +kernel
theorem dX12_wrapped_43 : decode cX12_wrapped 43 = .ok (.if_icmp .le 10, 3) := by decide +kernel
theorem dX12_wrapped_46 : decode cX12_wrapped 46 = .ok (.aload_n 0, 1) := by decide +kernel
theorem dX12_wrapped_47 : decode cX12_wrapped 47 = .ok (.bipush 7, 2) := by decide +kernel
theorem dX12_wrapped_49 : decode cX12_wrapped 49 = .ok (.invokevirtual 87, 3) := by decide +kernel
theorem dX12_wrapped_52 : decode cX12_wrapped 52 = .ok (.ireturn, 1) := by decide +kernel
theorem dX12_wrapped_53 : decode cX12_wrapped 53 = .ok (.aload_n 0, 1) := by decide +kernel
theorem dX12_wrapped_54 : decode cX12_wrapped 54 = .ok (.getfield 7, 3) := by decide +kernel
theorem dX12_wrapped_57 : decode cX12_wrapped 57 = .ok (.iload_n 3, 1) := by decide +kernel
theorem dX12_wrapped_58 : decode cX12_wrapped 58 = .ok (.dup2, 1) := by decide +kernel
theorem dX12_wrapped_59 : decode cX12_wrapped 59 = .ok (.iaload, 1) := by decide +kernel
theorem dX12_wrapped_60 : decode cX12_wrapped 60 = .ok (.iload_n 2, 1) := by decide +kernel
theorem dX12_wrapped_61 : decode cX12_wrapped 61 = .ok (.iadd, 1) := by decide +kernel
theorem dX12_wrapped_62 : decode cX12_wrapped 62 = .ok (.iastore, 1) := by decide +kernel
theorem dX12_wrapped_63 : decode cX12_wrapped 63 = .ok (.aload_n 0, 1) := by decide +kernel
theorem dX12_wrapped_64 : decode cX12_wrapped 64 = .ok (.aload_n 0, 1) := by decide +kernel
theorem dX12_wrapped_65 : decode cX12_wrapped 65 = .ok (.getfield 7, 3) := by decide +kernel
theorem dX12_wrapped_68 : decode cX12_wrapped 68 = .ok (.iload_n 3, 1) := by decide +kernel
theorem dX12_wrapped_69 : decode cX12_wrapped 69 = .ok (.iaload, 1) := by decide +kernel
theorem dX12_wrapped_70 : decode cX12_wrapped 70 = .ok (.invokevirtual 91, 3) := by decide +kernel
theorem dX12_wrapped_73 : decode cX12_wrapped 73 = .ok (.ireturn, 1) := by decide +kernel
noncomputable def fX12_wrapped_j20 (rf : Nat → Nat → Nat) (a0 : Nat) (μ0 : o_Mem) : Option (Int32 × o_Mem) :=
  o_bd (fX12_refuse rf a0 1 μ0) fun r1 μ1 =>
  some (r1, μ1)
noncomputable def fX12_wrapped (rf : Nat → Nat → Nat) (a0 : Nat) (x1 : Int32) (x2 : Int32) (μ0 : o_Mem) : Option (Int32 × o_Mem) :=
  o_bd (fX12_isLetter rf a0 x1 μ0) fun r1 μ1 =>
  if r1 = 0 then (
    fX12_wrapped_j20 rf a0 μ1)
  else (
    o_bd (fX12_isFrom rf x2.toInt64 (1 : Int64) (98 : Int64) μ1) fun r2 μ2 =>
    if r2 = 0 then (
      fX12_wrapped_j20 rf a0 μ2)
    else (
      o_bd (fX12_letterRow rf x1 μ2) fun r3 μ3 =>
      o_ck (0 ≤ ((r3 + 2)).toInt ∧ ((r3 + 2)).toInt < 3756) <|
      if ((μ3.1 (rf a0 0) ((r3 + 2)).toNatClampNeg) + x2) ≤ 99 then (
        o_ck (0 ≤ ((r3 + 2)).toInt ∧ ((r3 + 2)).toInt < 3756) <|
        o_ck (0 ≤ ((r3 + 2)).toInt ∧ ((r3 + 2)).toInt < 3756) <|
        o_seq (o_wI μ3 (rf a0 0) (((r3 + 2)).toNatClampNeg) ((μ3.1 (rf a0 0) ((r3 + 2)).toNatClampNeg) + x2)) fun μ4 =>
        o_ck (0 ≤ ((r3 + 2)).toInt ∧ ((r3 + 2)).toInt < 3756) <|
        o_bd (fX12_gives rf a0 (μ4.1 (rf a0 0) ((r3 + 2)).toNatClampNeg) μ4) fun r4 μ5 =>
        some (r4, μ5))
      else (
        o_bd (fX12_refuse rf a0 7 μ3) fun r5 μ6 =>
        some (r5, μ6))))
set_option maxRecDepth 20000 in
theorem dnX12_wrapped_j20 {X : o_Cx} (hX : o_ok X) {d : Nat} {a0 : Nat} {μ0 : o_Mem} {q : Int32 → o_Mem → Prop} (h0 : o_is X a0 (.inl 12)) (h : o_Post (fX12_wrapped_j20 (o_rf X) a0 μ0) q) : o_Ev X (d + 1) mX12_wrapped 20 [some (.ref (o_ad X a0)), none, none, none] [] μ0 (o_QI q) := by
  unfold fX12_wrapped_j20 at h
  refine s_aload_n (i := 0) dX12_wrapped_20 rfl rfl ?_
  refine s_iconst dX12_wrapped_21 kI_1 ?_
  refine s_callVi (C := mX12_refuse) (As := [.int 1]) (rest := []) (L0 := [some (.ref (o_ad X a0)), some (.int 1)]) hX h0 clX12_87 dX12_wrapped_22 rfl rfl (Nat.le_of_ble_eq_true rfl) (Nat.le_of_ble_eq_true rfl) (dnX12_refuse hX h0 (o_bdp h)) (fun r1 μ1 h => ?_)
  exact s_ireturn rfl dX12_wrapped_25 ⟨_, rfl, o_ret h⟩
set_option maxRecDepth 20000 in
theorem dnX12_wrapped {X : o_Cx} (hX : o_ok X) {d : Nat} {a0 : Nat} {x1 : Int32} {x2 : Int32} {μ0 : o_Mem} {q : Int32 → o_Mem → Prop} (h0 : o_is X a0 (.inl 12)) (h : o_Post (fX12_wrapped (o_rf X) a0 x1 x2 μ0) q) : o_Ev X (d + 1) mX12_wrapped 0 [some (.ref (o_ad X a0)), some (.int x1), some (.int x2), none] [] μ0 (o_QI q) := by
  unfold fX12_wrapped at h
  refine s_aload_n (i := 0) dX12_wrapped_0 rfl rfl ?_
  refine s_iload_n (i := 1) dX12_wrapped_1 rfl rfl ?_
  refine s_callVz (C := mX12_isLetter) (As := [.int x1]) (rest := []) (L0 := [some (.ref (o_ad X a0)), some (.int x1)]) hX h0 clX12_305 dX12_wrapped_2 rfl rfl (Nat.le_of_ble_eq_true rfl) (Nat.le_of_ble_eq_true rfl) (dnX12_isLetter hX h0 (o_bdp h)) (fun r1 μ1 zr1 h => ?_)
  refine s_if_eq (tgt := 20) dX12_wrapped_5 rfl (fun c1 => ?_) (fun c1 => ?_)
  · have h := o_if_t c1 h
    refine s_mask [true, false, false, false] (L' := [some (.ref (o_ad X a0)), none, none, none]) rfl ?_
    exact dnX12_wrapped_j20 hX h0 h
  · have h := o_if_f c1 h
    refine s_iload_n (i := 2) dX12_wrapped_8 rfl rfl ?_
    refine s_i2l dX12_wrapped_9 ?_
    refine s_lconst (v := 1) dX12_wrapped_10 rfl ?_
    refine s_ldc2 (v := 98) w_8_106 dX12_wrapped_11 ?_
    refine s_callSz (C := mX12_isFrom) (As := [.long x2.toInt64, .long (1 : Int64), .long (98 : Int64)]) (rest := []) (L0 := [some (.long x2.toInt64), none, some (.long (1 : Int64)), none, some (.long (98 : Int64)), none]) clX12_348 dX12_wrapped_14 rfl rfl (Nat.le_of_ble_eq_true rfl) (Nat.le_of_ble_eq_true rfl) (dnX12_isFrom hX  (o_bdp h)) (fun r2 μ2 zr2 h => ?_)
    refine s_if_ne (tgt := 26) dX12_wrapped_17 rfl (fun c1 => ?_) (fun c1 => ?_)
    · have h := o_if_f c1 h
      refine s_iload_n (i := 1) dX12_wrapped_26 rfl rfl ?_
      refine s_callSi (C := mX12_letterRow) (As := [.int x1]) (rest := []) (L0 := [some (.int x1)]) clX12_308 dX12_wrapped_27 rfl rfl (Nat.le_of_ble_eq_true rfl) (Nat.le_of_ble_eq_true rfl) (dnX12_letterRow hX  (o_bdp h)) (fun r3 μ3 h => ?_)
      refine s_iconst dX12_wrapped_30 kI_2 ?_
      refine s_iadd dX12_wrapped_31 ?_
      refine s_istore_n (i := 3) dX12_wrapped_32 rfl (Nat.le_of_ble_eq_true rfl) rfl ?_
      refine s_aload_n (i := 0) dX12_wrapped_33 rfl rfl ?_
      refine s_getR hX h0 flX12_7 rfl dX12_wrapped_34 (fun (g1 : o_is X (o_rf X a0 0) (.inr (0, 3756))) => ?_)
      refine s_iload_n (i := 3) dX12_wrapped_37 rfl rfl ?_
      have hc := o_ck_c h
      have h := o_ck_k h
      refine s_ialdK g1 hc rfl dX12_wrapped_38 ?_
      refine s_iload_n (i := 2) dX12_wrapped_39 rfl rfl ?_
      refine s_iadd dX12_wrapped_40 ?_
      refine s_bipush dX12_wrapped_41 kB_99 ?_
      refine s_icmp_le (tgt := 53) dX12_wrapped_43 rfl (fun c1 => ?_) (fun c1 => ?_)
      · have h := o_if_t c1 h
        refine s_aload_n (i := 0) dX12_wrapped_53 rfl rfl ?_
        refine s_getR hX h0 flX12_7 rfl dX12_wrapped_54 (fun (g2 : o_is X (o_rf X a0 0) (.inr (0, 3756))) => ?_)
        refine s_iload_n (i := 3) dX12_wrapped_57 rfl rfl ?_
        refine s_dup2 dX12_wrapped_58 rfl rfl ?_
        have hc := o_ck_c h
        have h := o_ck_k h
        refine s_ialdK g2 hc rfl dX12_wrapped_59 ?_
        refine s_iload_n (i := 2) dX12_wrapped_60 rfl rfl ?_
        refine s_iadd dX12_wrapped_61 ?_
        have hc := o_ck_c h
        have h := o_ck_k h
        refine s_iastK hX g2 hc rfl dX12_wrapped_62 (o_gen h (fun μ4 h => ?_))
        refine s_aload_n (i := 0) dX12_wrapped_63 rfl rfl ?_
        refine s_aload_n (i := 0) dX12_wrapped_64 rfl rfl ?_
        refine s_getR hX h0 flX12_7 rfl dX12_wrapped_65 (fun (g3 : o_is X (o_rf X a0 0) (.inr (0, 3756))) => ?_)
        refine s_iload_n (i := 3) dX12_wrapped_68 rfl rfl ?_
        have hc := o_ck_c h
        have h := o_ck_k h
        refine s_ialdK g3 hc rfl dX12_wrapped_69 ?_
        refine s_callVi (C := mX12_gives) (As := [.int (μ4.1 (o_rf X a0 0) ((r3 + 2)).toNatClampNeg)]) (rest := []) (L0 := [some (.ref (o_ad X a0)), some (.int (μ4.1 (o_rf X a0 0) ((r3 + 2)).toNatClampNeg))]) hX h0 clX12_91 dX12_wrapped_70 rfl rfl (Nat.le_of_ble_eq_true rfl) (Nat.le_of_ble_eq_true rfl) (dnX12_gives hX h0 (o_bdp h)) (fun r4 μ5 h => ?_)
        exact s_ireturn rfl dX12_wrapped_73 ⟨_, rfl, o_ret h⟩
      · have h := o_if_f c1 h
        refine s_aload_n (i := 0) dX12_wrapped_46 rfl rfl ?_
        refine s_bipush dX12_wrapped_47 kB_7 ?_
        refine s_callVi (C := mX12_refuse) (As := [.int 7]) (rest := []) (L0 := [some (.ref (o_ad X a0)), some (.int 7)]) hX h0 clX12_87 dX12_wrapped_49 rfl rfl (Nat.le_of_ble_eq_true rfl) (Nat.le_of_ble_eq_true rfl) (dnX12_refuse hX h0 (o_bdp h)) (fun r5 μ6 h => ?_)
        exact s_ireturn rfl dX12_wrapped_52 ⟨_, rfl, o_ret h⟩
    · have h := o_if_t c1 h
      refine s_mask [true, false, false, false] (L' := [some (.ref (o_ad X a0)), none, none, none]) rfl ?_
      exact dnX12_wrapped_j20 hX h0 h
theorem dX12_learn_0 : decode cX12_learn 0 = .ok (.aload_n 0, 1) := by decide +kernel
theorem dX12_learn_1 : decode cX12_learn 1 = .ok (.iload_n 1, 1) := by decide +kernel
theorem dX12_learn_2 : decode cX12_learn 2 = .ok (.invokevirtual 269, 3) := by decide +kernel
theorem dX12_learn_5 : decode cX12_learn 5 = .ok (.ifCond .eq 11, 3) := by decide +kernel
theorem dX12_learn_8 : decode cX12_learn 8 = .ok (.aload_n 0, 1) := by decide +kernel
theorem dX12_learn_9 : decode cX12_learn 9 = .ok (.iload_n 2, 1) := by decide +kernel
theorem dX12_learn_10 : decode cX12_learn 10 = .ok (.invokevirtual 281, 3) := by decide +kernel
theorem dX12_learn_13 : decode cX12_learn 13 = .ok (.ifCond .ne 9, 3) := by decide +kernel
theorem dX12_learn_16 : decode cX12_learn 16 = .ok (.aload_n 0, 1) := by decide +kernel
theorem dX12_learn_17 : decode cX12_learn 17 = .ok (.iconst 1, 1) := by decide +kernel
theorem dX12_learn_18 : decode cX12_learn 18 = .ok (.invokevirtual 94, 3) := by decide +kernel
theorem dX12_learn_21 : decode cX12_learn 21 = .ok (.ireturn, 1) := by decide +kernel
theorem dX12_learn_22 : decode cX12_learn 22 = .ok (.aload_n 0, 1) := by decide +kernel
theorem dX12_learn_23 : decode cX12_learn 23 = .ok (.getfield 7, 3) := by decide +kernel
theorem dX12_learn_26 : decode cX12_learn 26 = .ok (.bipush 25, 2) := by decide +kernel
theorem dX12_learn_28 : decode cX12_learn 28 = .ok (.iload_n 1, 1) := by decide +kernel
theorem dX12_learn_29 : decode cX12_learn 29 = .ok (.iadd, 1) := by decide +kernel
theorem dX12_learn_30 : decode cX12_learn 30 = .ok (.iload_n 2, 1) := by decide +kernel
theorem dX12_learn_31 : decode cX12_learn 31 = .ok (.iastore, 1) := by decide +kernel
theorem dX12_learn_32 : decode cX12_learn 32 = .ok (.aload_n 0, 1) := by decide +kernel
theorem dX12_learn_33 : decode cX12_learn 33 = .ok (.iconst 0, 1) := by decide +kernel
theorem dX12_learn_34 : decode cX12_learn 34 = .ok (.invokevirtual 94, 3) := by decide +kernel
theorem dX12_learn_37 : decode cX12_learn 37 = .ok (.ireturn, 1) := by decide +kernel
noncomputable def fX12_learn_j16 (rf : Nat → Nat → Nat) (a0 : Nat) (μ0 : o_Mem) : Option (Int32 × o_Mem) :=
  o_bd (fX12_is rf a0 1 μ0) fun r1 μ1 =>
  some (r1, μ1)
noncomputable def fX12_learn (rf : Nat → Nat → Nat) (a0 : Nat) (x1 : Int32) (x2 : Int32) (μ0 : o_Mem) : Option (Int32 × o_Mem) :=
  o_bd (fX12_isPerson rf a0 x1 μ0) fun r1 μ1 =>
  if r1 = 0 then (
    fX12_learn_j16 rf a0 μ1)
  else (
    o_bd (fX12_isHand rf a0 x2 μ1) fun r2 μ2 =>
    if r2 = 0 then (
      fX12_learn_j16 rf a0 μ2)
    else (
      o_ck (0 ≤ ((25 + x1)).toInt ∧ ((25 + x1)).toInt < 3756) <|
      o_seq (o_wI μ2 (rf a0 0) (((25 + x1)).toNatClampNeg) x2) fun μ3 =>
      o_bd (fX12_is rf a0 0 μ3) fun r3 μ4 =>
      some (r3, μ4)))
set_option maxRecDepth 20000 in
theorem dnX12_learn_j16 {X : o_Cx} (hX : o_ok X) {d : Nat} {a0 : Nat} {μ0 : o_Mem} {q : Int32 → o_Mem → Prop} (h0 : o_is X a0 (.inl 12)) (h : o_Post (fX12_learn_j16 (o_rf X) a0 μ0) q) : o_Ev X (d + 1) mX12_learn 16 [some (.ref (o_ad X a0)), none, none] [] μ0 (o_QZ q) := by
  unfold fX12_learn_j16 at h
  refine s_aload_n (i := 0) dX12_learn_16 rfl rfl ?_
  refine s_iconst dX12_learn_17 kI_1 ?_
  refine s_callVz (C := mX12_is) (As := [.int 1]) (rest := []) (L0 := [some (.ref (o_ad X a0)), some (.int 1)]) hX h0 clX12_94 dX12_learn_18 rfl rfl (Nat.le_of_ble_eq_true rfl) (Nat.le_of_ble_eq_true rfl) (dnX12_is hX h0 (o_bdp h)) (fun r1 μ1 zr1 h => ?_)
  exact s_zreturn rfl zr1 dX12_learn_21 ⟨_, rfl, zr1, o_ret h⟩
set_option maxRecDepth 20000 in
theorem dnX12_learn {X : o_Cx} (hX : o_ok X) {d : Nat} {a0 : Nat} {x1 : Int32} {x2 : Int32} {μ0 : o_Mem} {q : Int32 → o_Mem → Prop} (h0 : o_is X a0 (.inl 12)) (h : o_Post (fX12_learn (o_rf X) a0 x1 x2 μ0) q) : o_Ev X (d + 1) mX12_learn 0 [some (.ref (o_ad X a0)), some (.int x1), some (.int x2)] [] μ0 (o_QZ q) := by
  unfold fX12_learn at h
  refine s_aload_n (i := 0) dX12_learn_0 rfl rfl ?_
  refine s_iload_n (i := 1) dX12_learn_1 rfl rfl ?_
  refine s_callVz (C := mX12_isPerson) (As := [.int x1]) (rest := []) (L0 := [some (.ref (o_ad X a0)), some (.int x1)]) hX h0 clX12_269 dX12_learn_2 rfl rfl (Nat.le_of_ble_eq_true rfl) (Nat.le_of_ble_eq_true rfl) (dnX12_isPerson hX h0 (o_bdp h)) (fun r1 μ1 zr1 h => ?_)
  refine s_if_eq (tgt := 16) dX12_learn_5 rfl (fun c1 => ?_) (fun c1 => ?_)
  · have h := o_if_t c1 h
    refine s_mask [true, false, false] (L' := [some (.ref (o_ad X a0)), none, none]) rfl ?_
    exact dnX12_learn_j16 hX h0 h
  · have h := o_if_f c1 h
    refine s_aload_n (i := 0) dX12_learn_8 rfl rfl ?_
    refine s_iload_n (i := 2) dX12_learn_9 rfl rfl ?_
    refine s_callVz (C := mX12_isHand) (As := [.int x2]) (rest := []) (L0 := [some (.ref (o_ad X a0)), some (.int x2)]) hX h0 clX12_281 dX12_learn_10 rfl rfl (Nat.le_of_ble_eq_true rfl) (Nat.le_of_ble_eq_true rfl) (dnX12_isHand hX h0 (o_bdp h)) (fun r2 μ2 zr2 h => ?_)
    refine s_if_ne (tgt := 22) dX12_learn_13 rfl (fun c1 => ?_) (fun c1 => ?_)
    · have h := o_if_f c1 h
      refine s_aload_n (i := 0) dX12_learn_22 rfl rfl ?_
      refine s_getR hX h0 flX12_7 rfl dX12_learn_23 (fun (g1 : o_is X (o_rf X a0 0) (.inr (0, 3756))) => ?_)
      refine s_bipush dX12_learn_26 kB_25 ?_
      refine s_iload_n (i := 1) dX12_learn_28 rfl rfl ?_
      refine s_iadd dX12_learn_29 ?_
      refine s_iload_n (i := 2) dX12_learn_30 rfl rfl ?_
      have hc := o_ck_c h
      have h := o_ck_k h
      refine s_iastK hX g1 hc rfl dX12_learn_31 (o_gen h (fun μ3 h => ?_))
      refine s_aload_n (i := 0) dX12_learn_32 rfl rfl ?_
      refine s_iconst dX12_learn_33 kI_0 ?_
      refine s_callVz (C := mX12_is) (As := [.int 0]) (rest := []) (L0 := [some (.ref (o_ad X a0)), some (.int 0)]) hX h0 clX12_94 dX12_learn_34 rfl rfl (Nat.le_of_ble_eq_true rfl) (Nat.le_of_ble_eq_true rfl) (dnX12_is hX h0 (o_bdp h)) (fun r3 μ4 zr3 h => ?_)
      exact s_zreturn rfl zr3 dX12_learn_37 ⟨_, rfl, zr3, o_ret h⟩
    · have h := o_if_t c1 h
      refine s_mask [true, false, false] (L' := [some (.ref (o_ad X a0)), none, none]) rfl ?_
      exact dnX12_learn_j16 hX h0 h
theorem dX12_teach_0 : decode cX12_teach 0 = .ok (.aload_n 0, 1) := by decide +kernel
theorem dX12_teach_1 : decode cX12_teach 1 = .ok (.iload_n 1, 1) := by decide +kernel
theorem dX12_teach_2 : decode cX12_teach 2 = .ok (.iload_n 3, 1) := by decide +kernel
theorem dX12_teach_3 : decode cX12_teach 3 = .ok (.invokevirtual 274, 3) := by decide +kernel
theorem dX12_teach_6 : decode cX12_teach 6 = .ok (.ifCond .eq 21, 3) := by decide +kernel
theorem dX12_teach_9 : decode cX12_teach 9 = .ok (.aload_n 0, 1) := by decide +kernel
theorem dX12_teach_10 : decode cX12_teach 10 = .ok (.iload_n 2, 1) := by decide +kernel
theorem dX12_teach_11 : decode cX12_teach 11 = .ok (.i2l, 1) := by decide +kernel
theorem dX12_teach_12 : decode cX12_teach 12 = .ok (.invokevirtual 284, 3) := by decide +kernel
theorem dX12_teach_15 : decode cX12_teach 15 = .ok (.ifCond .eq 12, 3) := by decide +kernel
theorem dX12_teach_18 : decode cX12_teach 18 = .ok (.iload 4, 2) := by decide +kernel
theorem dX12_teach_20 : decode cX12_teach 20 = .ok (.i2l, 1) := by decide +kernel
theorem dX12_teach_21 : decode cX12_teach 21 = .ok (.invokestatic 277, 3) := by decide +kernel
theorem dX12_teach_24 : decode cX12_teach 24 = .ok (.ifCond .ne 9, 3) := by decide +kernel
theorem dX12_teach_27 : decode cX12_teach 27 = .ok (.aload_n 0, 1) := by decide +kernel
theorem dX12_teach_28 : decode cX12_teach 28 = .ok (.iconst 1, 1) := by decide +kernel
theorem dX12_teach_29 : decode cX12_teach 29 = .ok (.invokevirtual 94, 3) := by decide +kernel
theorem dX12_teach_32 : decode cX12_teach 32 = .ok (.ireturn, 1) := by decide +kernel
theorem dX12_teach_33 : decode cX12_teach 33 = .ok (.aload_n 0, 1) := by decide +kernel
theorem dX12_teach_34 : decode cX12_teach 34 = .ok (.getfield 7, 3) := by decide +kernel
theorem dX12_teach_37 : decode cX12_teach 37 = .ok (.iload_n 1, 1) := by decide +kernel
theorem dX12_teach_38 : decode cX12_teach 38 = .ok (.iload_n 2, 1) := by decide +kernel
theorem dX12_teach_39 : decode cX12_teach 39 = .ok (.invokestatic 302, 3) := by decide +kernel
theorem dX12_teach_42 : decode cX12_teach 42 = .ok (.iload_n 3, 1) := by decide +kernel
theorem dX12_teach_43 : decode cX12_teach 43 = .ok (.iastore, 1) := by decide +kernel
theorem dX12_teach_44 : decode cX12_teach 44 = .ok (.aload_n 0, 1) := by decide +kernel
theorem dX12_teach_45 : decode cX12_teach 45 = .ok (.getfield 7, 3) := by decide +kernel
theorem dX12_teach_48 : decode cX12_teach 48 = .ok (.iload_n 1, 1) := by decide +kernel
theorem dX12_teach_49 : decode cX12_teach 49 = .ok (.iload_n 2, 1) := by decide +kernel
theorem dX12_teach_50 : decode cX12_teach 50 = .ok (.invokestatic 302, 3) := by decide +kernel
theorem dX12_teach_53 : decode cX12_teach 53 = .ok (.iconst 1, 1) := by decide +kernel
theorem dX12_teach_54 : decode cX12_teach 54 = .ok (.iadd, 1) := by decide +kernel
theorem dX12_teach_55 : decode cX12_teach 55 = .ok (.iload 4, 2) := by decide +kernel
theorem dX12_teach_57 : decode cX12_teach 57 = .ok (.iastore, 1) := by decide +kernel
theorem dX12_teach_58 : decode cX12_teach 58 = .ok (.aload_n 0, 1) := by decide +kernel
theorem dX12_teach_59 : decode cX12_teach 59 = .ok (.iconst 0, 1) := by decide +kernel
theorem dX12_teach_60 : decode cX12_teach 60 = .ok (.invokevirtual 94, 3) := by decide +kernel
theorem dX12_teach_63 : decode cX12_teach 63 = .ok (.ireturn, 1) := by decide +kernel
noncomputable def fX12_teach_j27 (rf : Nat → Nat → Nat) (a0 : Nat) (μ0 : o_Mem) : Option (Int32 × o_Mem) :=
  o_bd (fX12_is rf a0 1 μ0) fun r1 μ1 =>
  some (r1, μ1)
noncomputable def fX12_teach (rf : Nat → Nat → Nat) (a0 : Nat) (x1 : Int32) (x2 : Int32) (x3 : Int32) (x4 : Int32) (μ0 : o_Mem) : Option (Int32 × o_Mem) :=
  o_bd (fX12_areTwo rf a0 x1 x3 μ0) fun r1 μ1 =>
  if r1 = 0 then (
    fX12_teach_j27 rf a0 μ1)
  else (
    o_bd (fX12_isStrike rf a0 x2.toInt64 μ1) fun r2 μ2 =>
    if r2 = 0 then (
      fX12_teach_j27 rf a0 μ2)
    else (
      o_bd (fX12_isWeight rf x4.toInt64 μ2) fun r3 μ3 =>
      if r3 = 0 then (
        fX12_teach_j27 rf a0 μ3)
      else (
        o_bd (fX12_actRow rf x1 x2 μ3) fun r4 μ4 =>
        o_ck (0 ≤ (r4).toInt ∧ (r4).toInt < 3756) <|
        o_seq (o_wI μ4 (rf a0 0) r4.toNatClampNeg x3) fun μ5 =>
        o_bd (fX12_actRow rf x1 x2 μ5) fun r5 μ6 =>
        o_ck (0 ≤ ((r5 + 1)).toInt ∧ ((r5 + 1)).toInt < 3756) <|
        o_seq (o_wI μ6 (rf a0 0) (((r5 + 1)).toNatClampNeg) x4) fun μ7 =>
        o_bd (fX12_is rf a0 0 μ7) fun r6 μ8 =>
        some (r6, μ8))))
set_option maxRecDepth 20000 in
theorem dnX12_teach_j27 {X : o_Cx} (hX : o_ok X) {d : Nat} {a0 : Nat} {μ0 : o_Mem} {q : Int32 → o_Mem → Prop} (h0 : o_is X a0 (.inl 12)) (h : o_Post (fX12_teach_j27 (o_rf X) a0 μ0) q) : o_Ev X (d + 2) mX12_teach 27 [some (.ref (o_ad X a0)), none, none, none, none] [] μ0 (o_QZ q) := by
  unfold fX12_teach_j27 at h
  refine s_aload_n (i := 0) dX12_teach_27 rfl rfl ?_
  refine s_iconst dX12_teach_28 kI_1 ?_
  refine s_callVz (C := mX12_is) (As := [.int 1]) (rest := []) (L0 := [some (.ref (o_ad X a0)), some (.int 1)]) hX h0 clX12_94 dX12_teach_29 rfl rfl (Nat.le_of_ble_eq_true rfl) (Nat.le_of_ble_eq_true rfl) (dnX12_is hX h0 (o_bdp h)) (fun r1 μ1 zr1 h => ?_)
  exact s_zreturn rfl zr1 dX12_teach_32 ⟨_, rfl, zr1, o_ret h⟩
set_option maxRecDepth 20000 in
theorem dnX12_teach {X : o_Cx} (hX : o_ok X) {d : Nat} {a0 : Nat} {x1 : Int32} {x2 : Int32} {x3 : Int32} {x4 : Int32} {μ0 : o_Mem} {q : Int32 → o_Mem → Prop} (h0 : o_is X a0 (.inl 12)) (h : o_Post (fX12_teach (o_rf X) a0 x1 x2 x3 x4 μ0) q) : o_Ev X (d + 2) mX12_teach 0 [some (.ref (o_ad X a0)), some (.int x1), some (.int x2), some (.int x3), some (.int x4)] [] μ0 (o_QZ q) := by
  unfold fX12_teach at h
  refine s_aload_n (i := 0) dX12_teach_0 rfl rfl ?_
  refine s_iload_n (i := 1) dX12_teach_1 rfl rfl ?_
  refine s_iload_n (i := 3) dX12_teach_2 rfl rfl ?_
  refine s_callVz (C := mX12_areTwo) (As := [.int x1, .int x3]) (rest := []) (L0 := [some (.ref (o_ad X a0)), some (.int x1), some (.int x3)]) hX h0 clX12_274 dX12_teach_3 rfl rfl (Nat.le_of_ble_eq_true rfl) (Nat.le_of_ble_eq_true rfl) (dnX12_areTwo hX h0 (o_bdp h)) (fun r1 μ1 zr1 h => ?_)
  refine s_if_eq (tgt := 27) dX12_teach_6 rfl (fun c1 => ?_) (fun c1 => ?_)
  · have h := o_if_t c1 h
    refine s_mask [true, false, false, false, false] (L' := [some (.ref (o_ad X a0)), none, none, none, none]) rfl ?_
    exact dnX12_teach_j27 hX h0 h
  · have h := o_if_f c1 h
    refine s_aload_n (i := 0) dX12_teach_9 rfl rfl ?_
    refine s_iload_n (i := 2) dX12_teach_10 rfl rfl ?_
    refine s_i2l dX12_teach_11 ?_
    refine s_callVz (C := mX12_isStrike) (As := [.long x2.toInt64]) (rest := []) (L0 := [some (.ref (o_ad X a0)), some (.long x2.toInt64), none]) hX h0 clX12_284 dX12_teach_12 rfl rfl (Nat.le_of_ble_eq_true rfl) (Nat.le_of_ble_eq_true rfl) (dnX12_isStrike hX h0 (o_bdp h)) (fun r2 μ2 zr2 h => ?_)
    refine s_if_eq (tgt := 27) dX12_teach_15 rfl (fun c1 => ?_) (fun c1 => ?_)
    · have h := o_if_t c1 h
      refine s_mask [true, false, false, false, false] (L' := [some (.ref (o_ad X a0)), none, none, none, none]) rfl ?_
      exact dnX12_teach_j27 hX h0 h
    · have h := o_if_f c1 h
      refine s_iload dX12_teach_18 rfl ?_
      refine s_i2l dX12_teach_20 ?_
      refine s_callSz (C := mX12_isWeight) (As := [.long x4.toInt64]) (rest := []) (L0 := [some (.long x4.toInt64), none]) clX12_277 dX12_teach_21 rfl rfl (Nat.le_of_ble_eq_true rfl) (Nat.le_of_ble_eq_true rfl) (dnX12_isWeight hX  (o_bdp h)) (fun r3 μ3 zr3 h => ?_)
      refine s_if_ne (tgt := 33) dX12_teach_24 rfl (fun c1 => ?_) (fun c1 => ?_)
      · have h := o_if_f c1 h
        refine s_aload_n (i := 0) dX12_teach_33 rfl rfl ?_
        refine s_getR hX h0 flX12_7 rfl dX12_teach_34 (fun (g1 : o_is X (o_rf X a0 0) (.inr (0, 3756))) => ?_)
        refine s_iload_n (i := 1) dX12_teach_37 rfl rfl ?_
        refine s_iload_n (i := 2) dX12_teach_38 rfl rfl ?_
        refine s_callSi (C := mX12_actRow) (As := [.int x1, .int x2]) (rest := [.ref (o_ad X (o_rf X a0 0))]) (L0 := [some (.int x1), some (.int x2)]) clX12_302 dX12_teach_39 rfl rfl (Nat.le_of_ble_eq_true rfl) (Nat.le_of_ble_eq_true rfl) (dnX12_actRow hX  (o_bdp h)) (fun r4 μ4 h => ?_)
        refine s_iload_n (i := 3) dX12_teach_42 rfl rfl ?_
        have hc := o_ck_c h
        have h := o_ck_k h
        refine s_iastK hX g1 hc rfl dX12_teach_43 (o_gen h (fun μ5 h => ?_))
        refine s_aload_n (i := 0) dX12_teach_44 rfl rfl ?_
        refine s_getR hX h0 flX12_7 rfl dX12_teach_45 (fun (g2 : o_is X (o_rf X a0 0) (.inr (0, 3756))) => ?_)
        refine s_iload_n (i := 1) dX12_teach_48 rfl rfl ?_
        refine s_iload_n (i := 2) dX12_teach_49 rfl rfl ?_
        refine s_callSi (C := mX12_actRow) (As := [.int x1, .int x2]) (rest := [.ref (o_ad X (o_rf X a0 0))]) (L0 := [some (.int x1), some (.int x2)]) clX12_302 dX12_teach_50 rfl rfl (Nat.le_of_ble_eq_true rfl) (Nat.le_of_ble_eq_true rfl) (dnX12_actRow hX  (o_bdp h)) (fun r5 μ6 h => ?_)
        refine s_iconst dX12_teach_53 kI_1 ?_
        refine s_iadd dX12_teach_54 ?_
        refine s_iload dX12_teach_55 rfl ?_
        have hc := o_ck_c h
        have h := o_ck_k h
        refine s_iastK hX g2 hc rfl dX12_teach_57 (o_gen h (fun μ7 h => ?_))
        refine s_aload_n (i := 0) dX12_teach_58 rfl rfl ?_
        refine s_iconst dX12_teach_59 kI_0 ?_
        refine s_callVz (C := mX12_is) (As := [.int 0]) (rest := []) (L0 := [some (.ref (o_ad X a0)), some (.int 0)]) hX h0 clX12_94 dX12_teach_60 rfl rfl (Nat.le_of_ble_eq_true rfl) (Nat.le_of_ble_eq_true rfl) (dnX12_is hX h0 (o_bdp h)) (fun r6 μ8 zr6 h => ?_)
        exact s_zreturn rfl zr6 dX12_teach_63 ⟨_, rfl, zr6, o_ret h⟩
      · have h := o_if_t c1 h
        refine s_mask [true, false, false, false, false] (L' := [some (.ref (o_ad X a0)), none, none, none, none]) rfl ?_
        exact dnX12_teach_j27 hX h0 h
theorem dX12_forget_0 : decode cX12_forget 0 = .ok (.aload_n 0, 1) := by decide +kernel
theorem dX12_forget_1 : decode cX12_forget 1 = .ok (.iload_n 1, 1) := by decide +kernel
theorem dX12_forget_2 : decode cX12_forget 2 = .ok (.invokevirtual 269, 3) := by decide +kernel
theorem dX12_forget_5 : decode cX12_forget 5 = .ok (.ifCond .eq 12, 3) := by decide +kernel
theorem dX12_forget_8 : decode cX12_forget 8 = .ok (.aload_n 0, 1) := by decide +kernel
theorem dX12_forget_9 : decode cX12_forget 9 = .ok (.iload_n 2, 1) := by decide +kernel
theorem dX12_forget_10 : decode cX12_forget 10 = .ok (.i2l, 1) := by decide +kernel
theorem dX12_forget_11 : decode cX12_forget 11 = .ok (.invokevirtual 284, 3) := by decide +kernel
theorem dX12_forget_14 : decode cX12_forget 14 = .ok (.ifCond .ne 9, 3) := by decide +kernel
theorem dX12_forget_17 : decode cX12_forget 17 = .ok (.aload_n 0, 1) := by decide +kernel
theorem dX12_forget_18 : decode cX12_forget 18 = .ok (.iconst 1, 1) := by decide +kernel
theorem dX12_forget_19 : decode cX12_forget 19 = .ok (.invokevirtual 94, 3) := by decide +kernel
theorem dX12_forget_22 : decode cX12_forget 22 = .ok (.ireturn, 1) := by decide +kernel
theorem dX12_forget_23 : decode cX12_forget 23 = .ok (.aload_n 0, 1) := by decide +kernel
theorem dX12_forget_24 : decode cX12_forget 24 = .ok (.getfield 7, 3) := by decide +kernel
theorem dX12_forget_27 : decode cX12_forget 27 = .ok (.iload_n 1, 1) := by decide +kernel
theorem dX12_forget_28 : decode cX12_forget 28 = .ok (.iload_n 2, 1) := by decide +kernel
theorem dX12_forget_29 : decode cX12_forget 29 = .ok (.invokestatic 302, 3) := by decide +kernel
theorem dX12_forget_32 : decode cX12_forget 32 = .ok (.iaload, 1) := by decide +kernel
theorem dX12_forget_33 : decode cX12_forget 33 = .ok (.iconst (-1), 1) := by decide +kernel
theorem dX12_forget_34 : decode cX12_forget 34 = .ok (.if_icmp .ne 10, 3) := by decide +kernel
theorem dX12_forget_37 : decode cX12_forget 37 = .ok (.aload_n 0, 1) := by decide +kernel
theorem dX12_forget_38 : decode cX12_forget 38 = .ok (.bipush 7, 2) := by decide +kernel
theorem dX12_forget_40 : decode cX12_forget 40 = .ok (.invokevirtual 94, 3) := by decide +kernel
theorem dX12_forget_43 : decode cX12_forget 43 = .ok (.ireturn, 1) := by decide +kernel
theorem dX12_forget_44 : decode cX12_forget 44 = .ok (.aload_n 0, 1) := by decide +kernel
theorem dX12_forget_45 : decode cX12_forget 45 = .ok (.getfield 7, 3) := by decide +kernel
theorem dX12_forget_48 : decode cX12_forget 48 = .ok (.iload_n 1, 1) := by decide +kernel
theorem dX12_forget_49 : decode cX12_forget 49 = .ok (.iload_n 2, 1) := by decide +kernel
theorem dX12_forget_50 : decode cX12_forget 50 = .ok (.invokestatic 302, 3) := by decide +kernel
theorem dX12_forget_53 : decode cX12_forget 53 = .ok (.iconst (-1), 1) := by decide +kernel
theorem dX12_forget_54 : decode cX12_forget 54 = .ok (.iastore, 1) := by decide +kernel
theorem dX12_forget_55 : decode cX12_forget 55 = .ok (.aload_n 0, 1) := by decide +kernel
theorem dX12_forget_56 : decode cX12_forget 56 = .ok (.iconst 0, 1) := by decide +kernel
theorem dX12_forget_57 : decode cX12_forget 57 = .ok (.invokevirtual 94, 3) := by decide +kernel
theorem dX12_forget_60 : decode cX12_forget 60 = .ok (.ireturn, 1) := by decide +kernel
noncomputable def fX12_forget_j17 (rf : Nat → Nat → Nat) (a0 : Nat) (μ0 : o_Mem) : Option (Int32 × o_Mem) :=
  o_bd (fX12_is rf a0 1 μ0) fun r1 μ1 =>
  some (r1, μ1)
noncomputable def fX12_forget (rf : Nat → Nat → Nat) (a0 : Nat) (x1 : Int32) (x2 : Int32) (μ0 : o_Mem) : Option (Int32 × o_Mem) :=
  o_bd (fX12_isPerson rf a0 x1 μ0) fun r1 μ1 =>
  if r1 = 0 then (
    fX12_forget_j17 rf a0 μ1)
  else (
    o_bd (fX12_isStrike rf a0 x2.toInt64 μ1) fun r2 μ2 =>
    if r2 = 0 then (
      fX12_forget_j17 rf a0 μ2)
    else (
      o_bd (fX12_actRow rf x1 x2 μ2) fun r3 μ3 =>
      o_ck (0 ≤ (r3).toInt ∧ (r3).toInt < 3756) <|
      if (μ3.1 (rf a0 0) r3.toNatClampNeg) = (-1) then (
        o_bd (fX12_is rf a0 7 μ3) fun r6 μ7 =>
        some (r6, μ7))
      else (
        o_bd (fX12_actRow rf x1 x2 μ3) fun r4 μ4 =>
        o_ck (0 ≤ (r4).toInt ∧ (r4).toInt < 3756) <|
        o_seq (o_wI μ4 (rf a0 0) r4.toNatClampNeg (-1)) fun μ5 =>
        o_bd (fX12_is rf a0 0 μ5) fun r5 μ6 =>
        some (r5, μ6))))
set_option maxRecDepth 20000 in
theorem dnX12_forget_j17 {X : o_Cx} (hX : o_ok X) {d : Nat} {a0 : Nat} {μ0 : o_Mem} {q : Int32 → o_Mem → Prop} (h0 : o_is X a0 (.inl 12)) (h : o_Post (fX12_forget_j17 (o_rf X) a0 μ0) q) : o_Ev X (d + 1) mX12_forget 17 [some (.ref (o_ad X a0)), none, none] [] μ0 (o_QZ q) := by
  unfold fX12_forget_j17 at h
  refine s_aload_n (i := 0) dX12_forget_17 rfl rfl ?_
  refine s_iconst dX12_forget_18 kI_1 ?_
  refine s_callVz (C := mX12_is) (As := [.int 1]) (rest := []) (L0 := [some (.ref (o_ad X a0)), some (.int 1)]) hX h0 clX12_94 dX12_forget_19 rfl rfl (Nat.le_of_ble_eq_true rfl) (Nat.le_of_ble_eq_true rfl) (dnX12_is hX h0 (o_bdp h)) (fun r1 μ1 zr1 h => ?_)
  exact s_zreturn rfl zr1 dX12_forget_22 ⟨_, rfl, zr1, o_ret h⟩
set_option maxRecDepth 20000 in
theorem dnX12_forget {X : o_Cx} (hX : o_ok X) {d : Nat} {a0 : Nat} {x1 : Int32} {x2 : Int32} {μ0 : o_Mem} {q : Int32 → o_Mem → Prop} (h0 : o_is X a0 (.inl 12)) (h : o_Post (fX12_forget (o_rf X) a0 x1 x2 μ0) q) : o_Ev X (d + 1) mX12_forget 0 [some (.ref (o_ad X a0)), some (.int x1), some (.int x2)] [] μ0 (o_QZ q) := by
  unfold fX12_forget at h
  refine s_aload_n (i := 0) dX12_forget_0 rfl rfl ?_
  refine s_iload_n (i := 1) dX12_forget_1 rfl rfl ?_
  refine s_callVz (C := mX12_isPerson) (As := [.int x1]) (rest := []) (L0 := [some (.ref (o_ad X a0)), some (.int x1)]) hX h0 clX12_269 dX12_forget_2 rfl rfl (Nat.le_of_ble_eq_true rfl) (Nat.le_of_ble_eq_true rfl) (dnX12_isPerson hX h0 (o_bdp h)) (fun r1 μ1 zr1 h => ?_)
  refine s_if_eq (tgt := 17) dX12_forget_5 rfl (fun c1 => ?_) (fun c1 => ?_)
  · have h := o_if_t c1 h
    refine s_mask [true, false, false] (L' := [some (.ref (o_ad X a0)), none, none]) rfl ?_
    exact dnX12_forget_j17 hX h0 h
  · have h := o_if_f c1 h
    refine s_aload_n (i := 0) dX12_forget_8 rfl rfl ?_
    refine s_iload_n (i := 2) dX12_forget_9 rfl rfl ?_
    refine s_i2l dX12_forget_10 ?_
    refine s_callVz (C := mX12_isStrike) (As := [.long x2.toInt64]) (rest := []) (L0 := [some (.ref (o_ad X a0)), some (.long x2.toInt64), none]) hX h0 clX12_284 dX12_forget_11 rfl rfl (Nat.le_of_ble_eq_true rfl) (Nat.le_of_ble_eq_true rfl) (dnX12_isStrike hX h0 (o_bdp h)) (fun r2 μ2 zr2 h => ?_)
    refine s_if_ne (tgt := 23) dX12_forget_14 rfl (fun c1 => ?_) (fun c1 => ?_)
    · have h := o_if_f c1 h
      refine s_aload_n (i := 0) dX12_forget_23 rfl rfl ?_
      refine s_getR hX h0 flX12_7 rfl dX12_forget_24 (fun (g1 : o_is X (o_rf X a0 0) (.inr (0, 3756))) => ?_)
      refine s_iload_n (i := 1) dX12_forget_27 rfl rfl ?_
      refine s_iload_n (i := 2) dX12_forget_28 rfl rfl ?_
      refine s_callSi (C := mX12_actRow) (As := [.int x1, .int x2]) (rest := [.ref (o_ad X (o_rf X a0 0))]) (L0 := [some (.int x1), some (.int x2)]) clX12_302 dX12_forget_29 rfl rfl (Nat.le_of_ble_eq_true rfl) (Nat.le_of_ble_eq_true rfl) (dnX12_actRow hX  (o_bdp h)) (fun r3 μ3 h => ?_)
      have hc := o_ck_c h
      have h := o_ck_k h
      refine s_ialdK g1 hc rfl dX12_forget_32 ?_
      refine s_iconst dX12_forget_33 kI_m1 ?_
      refine s_icmp_ne (tgt := 44) dX12_forget_34 rfl (fun c1 => ?_) (fun c1 => ?_)
      · have h := o_if_f c1 h
        refine s_aload_n (i := 0) dX12_forget_44 rfl rfl ?_
        refine s_getR hX h0 flX12_7 rfl dX12_forget_45 (fun (g2 : o_is X (o_rf X a0 0) (.inr (0, 3756))) => ?_)
        refine s_iload_n (i := 1) dX12_forget_48 rfl rfl ?_
        refine s_iload_n (i := 2) dX12_forget_49 rfl rfl ?_
        refine s_callSi (C := mX12_actRow) (As := [.int x1, .int x2]) (rest := [.ref (o_ad X (o_rf X a0 0))]) (L0 := [some (.int x1), some (.int x2)]) clX12_302 dX12_forget_50 rfl rfl (Nat.le_of_ble_eq_true rfl) (Nat.le_of_ble_eq_true rfl) (dnX12_actRow hX  (o_bdp h)) (fun r4 μ4 h => ?_)
        refine s_iconst dX12_forget_53 kI_m1 ?_
        have hc := o_ck_c h
        have h := o_ck_k h
        refine s_iastK hX g2 hc rfl dX12_forget_54 (o_gen h (fun μ5 h => ?_))
        refine s_aload_n (i := 0) dX12_forget_55 rfl rfl ?_
        refine s_iconst dX12_forget_56 kI_0 ?_
        refine s_callVz (C := mX12_is) (As := [.int 0]) (rest := []) (L0 := [some (.ref (o_ad X a0)), some (.int 0)]) hX h0 clX12_94 dX12_forget_57 rfl rfl (Nat.le_of_ble_eq_true rfl) (Nat.le_of_ble_eq_true rfl) (dnX12_is hX h0 (o_bdp h)) (fun r5 μ6 zr5 h => ?_)
        exact s_zreturn rfl zr5 dX12_forget_60 ⟨_, rfl, zr5, o_ret h⟩
      · have h := o_if_t c1 h
        refine s_aload_n (i := 0) dX12_forget_37 rfl rfl ?_
        refine s_bipush dX12_forget_38 kB_7 ?_
        refine s_callVz (C := mX12_is) (As := [.int 7]) (rest := []) (L0 := [some (.ref (o_ad X a0)), some (.int 7)]) hX h0 clX12_94 dX12_forget_40 rfl rfl (Nat.le_of_ble_eq_true rfl) (Nat.le_of_ble_eq_true rfl) (dnX12_is hX h0 (o_bdp h)) (fun r6 μ7 zr6 h => ?_)
        exact s_zreturn rfl zr6 dX12_forget_43 ⟨_, rfl, zr6, o_ret h⟩
    · have h := o_if_t c1 h
      refine s_mask [true, false, false] (L' := [some (.ref (o_ad X a0)), none, none]) rfl ?_
      exact dnX12_forget_j17 hX h0 h
