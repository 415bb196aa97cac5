theorem dX12_plays_0 : decode cX12_plays 0 = .ok (.iload_n 1, 1) := by decide +kernel
theorem dX12_plays_1 : decode cX12_plays 1 = .ok (.aload_n 0, 1) := by decide +kernel
theorem dX12_plays_2 : decode cX12_plays 2 = .ok (.getfield 7, 3) := by decide +kernel
theorem dX12_plays_5 : decode cX12_plays 5 = .ok (.iconst 4, 1) := by decide +kernel
theorem dX12_plays_6 : decode cX12_plays 6 = .ok (.iaload, 1) := by decide +kernel
theorem dX12_plays_7 : decode cX12_plays 7 = .ok (.invokestatic 142, 3) := by decide +kernel
theorem dX12_plays_10 : decode cX12_plays 10 = .ok (.istore_n 2, 1) := by decide +kernel
theorem dX12_plays_11 : decode cX12_plays 11 = .ok (.aload_n 0, 1) := by decide +kernel
theorem dX12_plays_12 : decode cX12_plays 12 = .ok (.iconst (-1), 1) := by decide +kernel
theorem dX12_plays_13 : decode cX12_plays 13 = .ok (.putfield 429, 3) := by decide +kernel
theorem dX12_plays_16 : decode cX12_plays 16 = .ok (.iload_n 2, 1) := by decide +kernel
theorem dX12_plays_17 : decode cX12_plays 17 = .ok (.ifCond .ne 5, 3) := by decide +kernel
theorem dX12_plays_20 : decode cX12_plays 20 = .ok (.iconst 0, 1) := by decide +kernel
theorem dX12_plays_21 : decode cX12_plays 21 = .ok (.ireturn, 1) := by decide +kernel
theorem dX12_plays_22 : decode cX12_plays 22 = .ok (.iconst 0, 1) := by decide +kernel
theorem dX12_plays_23 : decode cX12_plays 23 = .ok (.istore_n 3, 1) := by decide +kernel
theorem dX12_plays_24 : decode cX12_plays 24 = .ok (.aload_n 0, 1) := by decide +kernel
theorem dX12_plays_25 : decode cX12_plays 25 = .ok (.getfield 59, 3) := by decide +kernel
theorem dX12_plays_28 : decode cX12_plays 28 = .ok (.iconst 0, 1) := by decide +kernel
theorem dX12_plays_29 : decode cX12_plays 29 = .ok (.iconst (-1), 1) := by decide +kernel
theorem dX12_plays_30 : decode cX12_plays 30 = .ok (.iastore, 1) := by decide +kernel
theorem dX12_plays_31 : decode cX12_plays 31 = .ok (.aload_n 0, 1) := by decide +kernel
theorem dX12_plays_32 : decode cX12_plays 32 = .ok (.getfield 62, 3) := by decide +kernel
theorem dX12_plays_35 : decode cX12_plays 35 = .ok (.iconst 0, 1) := by decide +kernel
theorem dX12_plays_36 : decode cX12_plays 36 = .ok (.ldc_w 366, 3) := by decide +kernel
theorem dX12_plays_39 : decode cX12_plays 39 = .ok (.iastore, 1) := by decide +kernel
theorem dX12_plays_40 : decode cX12_plays 40 = .ok (.aload_n 0, 1) := by decide +kernel
theorem dX12_plays_41 : decode cX12_plays 41 = .ok (.getfield 65, 3) := by decide +kernel
theorem dX12_plays_44 : decode cX12_plays 44 = .ok (.iconst 0, 1) := by decide +kernel
theorem dX12_plays_45 : decode cX12_plays 45 = .ok (.iconst 0, 1) := by decide +kernel
theorem dX12_plays_46 : decode cX12_plays 46 = .ok (.iastore, 1) := by decide +kernel
theorem dX12_plays_47 : decode cX12_plays 47 = .ok (.iload_n 3, 1) := by decide +kernel
theorem dX12_plays_48 : decode cX12_plays 48 = .ok (.ifCond .lt 156, 3) := by decide +kernel
theorem dX12_plays_51 : decode cX12_plays 51 = .ok (.aload_n 0, 1) := by decide +kernel
theorem dX12_plays_52 : decode cX12_plays 52 = .ok (.getfield 59, 3) := by decide +kernel
theorem dX12_plays_55 : decode cX12_plays 55 = .ok (.iload_n 3, 1) := by decide +kernel
theorem dX12_plays_56 : decode cX12_plays 56 = .ok (.dup2, 1) := by decide +kernel
theorem dX12_plays_57 : decode cX12_plays 57 = .ok (.iaload, 1) := by decide +kernel
theorem dX12_plays_58 : decode cX12_plays 58 = .ok (.iconst 1, 1) := by decide +kernel
theorem dX12_plays_59 : decode cX12_plays 59 = .ok (.iadd, 1) := by decide +kernel
theorem dX12_plays_60 : decode cX12_plays 60 = .ok (.iastore, 1) := by decide +kernel
theorem dX12_plays_61 : decode cX12_plays 61 = .ok (.aload_n 0, 1) := by decide +kernel
theorem dX12_plays_62 : decode cX12_plays 62 = .ok (.getfield 59, 3) := by decide +kernel
theorem dX12_plays_65 : decode cX12_plays 65 = .ok (.iload_n 3, 1) := by decide +kernel
theorem dX12_plays_66 : decode cX12_plays 66 = .ok (.iaload, 1) := by decide +kernel
theorem dX12_plays_67 : decode cX12_plays 67 = .ok (.aload_n 0, 1) := by decide +kernel
theorem dX12_plays_68 : decode cX12_plays 68 = .ok (.getfield 7, 3) := by decide +kernel
theorem dX12_plays_71 : decode cX12_plays 71 = .ok (.iconst 4, 1) := by decide +kernel
theorem dX12_plays_72 : decode cX12_plays 72 = .ok (.iaload, 1) := by decide +kernel
theorem dX12_plays_73 : decode cX12_plays 73 = .ok (.if_icmp .ne 26, 3) := by decide +kernel
theorem dX12_plays_76 : decode cX12_plays 76 = .ok (.iinc 3 (-1), 3) := by decide +kernel
theorem dX12_plays_79 : decode cX12_plays 79 = .ok (.iload_n 3, 1) := by decide +kernel
theorem dX12_plays_80 : decode cX12_plays 80 = .ok (.ifCond .lt (-33), 3) := by decide +kernel
theorem dX12_plays_83 : decode cX12_plays 83 = .ok (.aload_n 0, 1) := by decide +kernel
theorem dX12_plays_84 : decode cX12_plays 84 = .ok (.iload_n 3, 1) := by decide +kernel
theorem dX12_plays_85 : decode cX12_plays 85 = .ok (.aload_n 0, 1) := by decide +kernel
theorem dX12_plays_86 : decode cX12_plays 86 = .ok (.getfield 62, 3) := by decide +kernel
theorem dX12_plays_89 : decode cX12_plays 89 = .ok (.iload_n 3, 1) := by decide +kernel
theorem dX12_plays_90 : decode cX12_plays 90 = .ok (.iconst 1, 1) := by decide +kernel
theorem dX12_plays_91 : decode cX12_plays 91 = .ok (.iadd, 1) := by decide +kernel
theorem dX12_plays_92 : decode cX12_plays 92 = .ok (.iaload, 1) := by decide +kernel
theorem dX12_plays_93 : decode cX12_plays 93 = .ok (.invokevirtual 432, 3) := by decide +kernel
theorem dX12_plays_96 : decode cX12_plays 96 = .ok (.goto (-49), 3) := by decide +kernel
theorem dX12_plays_99 : decode cX12_plays 99 = .ok (.aload_n 0, 1) := by decide +kernel
theorem dX12_plays_100 : decode cX12_plays 100 = .ok (.aload_n 0, 1) := by decide +kernel
theorem dX12_plays_101 : decode cX12_plays 101 = .ok (.getfield 59, 3) := by decide +kernel
theorem dX12_plays_104 : decode cX12_plays 104 = .ok (.iload_n 3, 1) := by decide +kernel
theorem dX12_plays_105 : decode cX12_plays 105 = .ok (.iaload, 1) := by decide +kernel
theorem dX12_plays_106 : decode cX12_plays 106 = .ok (.iload_n 3, 1) := by decide +kernel
theorem dX12_plays_107 : decode cX12_plays 107 = .ok (.invokevirtual 436, 3) := by decide +kernel
theorem dX12_plays_110 : decode cX12_plays 110 = .ok (.ifCond .eq 6, 3) := by decide +kernel
theorem dX12_plays_113 : decode cX12_plays 113 = .ok (.goto (-66), 3) := by decide +kernel
theorem dX12_plays_116 : decode cX12_plays 116 = .ok (.aload_n 0, 1) := by decide +kernel
theorem dX12_plays_117 : decode cX12_plays 117 = .ok (.getfield 65, 3) := by decide +kernel
theorem dX12_plays_120 : decode cX12_plays 120 = .ok (.iload_n 3, 1) := by decide +kernel
theorem dX12_plays_121 : decode cX12_plays 121 = .ok (.iaload, 1) := by decide +kernel
theorem dX12_plays_122 : decode cX12_plays 122 = .ok (.iload_n 3, 1) := by decide +kernel
theorem dX12_plays_123 : decode cX12_plays 123 = .ok (.iconst 2, 1) := by decide +kernel
theorem dX12_plays_124 : decode cX12_plays 124 = .ok (.irem, 1) := by decide +kernel
theorem dX12_plays_125 : decode cX12_plays 125 = .ok (.ifCond .ne 17, 3) := by decide +kernel
theorem dX12_plays_128 : decode cX12_plays 128 = .ok (.aload_n 0, 1) := by decide +kernel
theorem dX12_plays_129 : decode cX12_plays 129 = .ok (.aload_n 0, 1) := by decide +kernel
theorem dX12_plays_130 : decode cX12_plays 130 = .ok (.getfield 59, 3) := by decide +kernel
theorem dX12_plays_133 : decode cX12_plays 133 = .ok (.iload_n 3, 1) := by decide +kernel
theorem dX12_plays_134 : decode cX12_plays 134 = .ok (.iaload, 1) := by decide +kernel
theorem dX12_plays_135 : decode cX12_plays 135 = .ok (.iconst 1, 1) := by decide +kernel
theorem dX12_plays_136 : decode cX12_plays 136 = .ok (.invokevirtual 439, 3) := by decide +kernel
theorem dX12_plays_139 : decode cX12_plays 139 = .ok (.goto 15, 3) := by decide +kernel
theorem dX12_plays_142 : decode cX12_plays 142 = .ok (.aload_n 0, 1) := by decide +kernel
theorem dX12_plays_143 : decode cX12_plays 143 = .ok (.aload_n 0, 1) := by decide +kernel
theorem dX12_plays_144 : decode cX12_plays 144 = .ok (.getfield 59, 3) := by decide +kernel
theorem dX12_plays_147 : decode cX12_plays 147 = .ok (.iload_n 3, 1) := by decide +kernel
theorem dX12_plays_148 : decode cX12_plays 148 = .ok (.iaload, 1) := by decide +kernel
theorem dX12_plays_149 : decode cX12_plays 149 = .ok (.iconst 0, 1) := by decide +kernel
theorem dX12_plays_150 : decode cX12_plays 150 = .ok (.invokevirtual 439, 3) := by decide +kernel
theorem dX12_plays_153 : decode cX12_plays 153 = .ok (.ineg, 1) := by decide +kernel
theorem dX12_plays_154 : decode cX12_plays 154 = .ok (.iadd, 1) := by decide +kernel
theorem dX12_plays_155 : decode cX12_plays 155 = .ok (.istore 4, 2) := by decide +kernel
theorem dX12_plays_157 : decode cX12_plays 157 = .ok (.iload_n 3, 1) := by decide +kernel
theorem dX12_plays_158 : decode cX12_plays 158 = .ok (.iconst 1, 1) := by decide +kernel
theorem dX12_plays_159 : decode cX12_plays 159 = .ok (.iadd, 1) := by decide +kernel
theorem dX12_plays_160 : decode cX12_plays 160 = .ok (.iload_n 2, 1) := by decide +kernel
theorem dX12_plays_161 : decode cX12_plays 161 = .ok (.if_icmp .ge 33, 3) := by decide +kernel
theorem dX12_plays_164 : decode cX12_plays 164 = .ok (.iinc 3 1, 3) := by decide +kernel
theorem dX12_plays_167 : decode cX12_plays 167 = .ok (.aload_n 0, 1) := by decide +kernel
theorem dX12_plays_168 : decode cX12_plays 168 = .ok (.getfield 59, 3) := by decide +kernel
theorem dX12_plays_171 : decode cX12_plays 171 = .ok (.iload_n 3, 1) := by decide +kernel
theorem dX12_plays_172 : decode cX12_plays 172 = .ok (.iconst (-1), 1) := by decide +kernel
theorem dX12_plays_173 : decode cX12_plays 173 = .ok (.iastore, 1) := by decide +kernel
theorem dX12_plays_174 : decode cX12_plays 174 = .ok (.aload_n 0, 1) := by decide +kernel
theorem dX12_plays_175 : decode cX12_plays 175 = .ok (.getfield 62, 3) := by decide +kernel
theorem dX12_plays_178 : decode cX12_plays 178 = .ok (.iload_n 3, 1) := by decide +kernel
theorem dX12_plays_179 : decode cX12_plays 179 = .ok (.ldc_w 366, 3) := by decide +kernel
theorem dX12_plays_182 : decode cX12_plays 182 = .ok (.iastore, 1) := by decide +kernel
theorem dX12_plays_183 : decode cX12_plays 183 = .ok (.aload_n 0, 1) := by decide +kernel
theorem dX12_plays_184 : decode cX12_plays 184 = .ok (.getfield 65, 3) := by decide +kernel
theorem dX12_plays_187 : decode cX12_plays 187 = .ok (.iload_n 3, 1) := by decide +kernel
theorem dX12_plays_188 : decode cX12_plays 188 = .ok (.iload 4, 2) := by decide +kernel
theorem dX12_plays_190 : decode cX12_plays 190 = .ok (.iastore, 1) := by decide +kernel
theorem dX12_plays_191 : decode cX12_plays 191 = .ok (.goto 10, 3) := by decide +kernel
theorem dX12_plays_194 : decode cX12_plays 194 = .ok (.aload_n 0, 1) := by decide +kernel
theorem dX12_plays_195 : decode cX12_plays 195 = .ok (.iload_n 3, 1) := by decide +kernel
theorem dX12_plays_196 : decode cX12_plays 196 = .ok (.iload 4, 2) := by decide +kernel
theorem dX12_plays_198 : decode cX12_plays 198 = .ok (.invokevirtual 432, 3) := by decide +kernel
theorem dX12_plays_201 : decode cX12_plays 201 = .ok (.goto (-154), 3) := by decide +kernel
theorem dX12_plays_204 : decode cX12_plays 204 = .ok (.aload_n 0, 1) := by decide +kernel
theorem dX12_plays_205 : decode cX12_plays 205 = .ok (.getfield 62, 3) := by decide +kernel
theorem dX12_plays_208 : decode cX12_plays 208 = .ok (.iconst 0, 1) := by decide +kernel
theorem dX12_plays_209 : decode cX12_plays 209 = .ok (.iaload, 1) := by decide +kernel
theorem dX12_plays_210 : decode cX12_plays 210 = .ok (.ireturn, 1) := by decide +kernel
noncomputable def fX12_plays_j154 (rf : Nat → Nat → Nat) (a0 : Nat) (x2 : Int32) (x3 : Int32) (y0 : Int32) (y1 : Int32) (μ0 : o_Mem) : Option ((Nat × (Int32)) × o_Mem) :=
  if x2 ≤ (x3 + 1) then (
    o_bd (fX12_weighs rf a0 x3 (y0 + y1) μ0) fun _u μ1 =>
    some ((47, x3), μ1))
  else (
    o_ck (0 ≤ ((x3 + 1)).toInt ∧ ((x3 + 1)).toInt < 4) <|
    o_seq (o_wI μ0 (rf a0 28) (((x3 + 1)).toNatClampNeg) (-1)) fun μ2 =>
    o_ck (0 ≤ ((x3 + 1)).toInt ∧ ((x3 + 1)).toInt < 4) <|
    o_seq (o_wI μ2 (rf a0 29) (((x3 + 1)).toNatClampNeg) 1000000) fun μ3 =>
    o_ck (0 ≤ ((x3 + 1)).toInt ∧ ((x3 + 1)).toInt < 4) <|
    o_seq (o_wI μ3 (rf a0 30) (((x3 + 1)).toNatClampNeg) (y0 + y1)) fun μ4 =>
    some ((47, (x3 + 1)), μ4))
noncomputable def fX12_plays_s47 (rf : Nat → Nat → Nat) (a0 : Nat) (x2 : Int32) (τ47 : Int32) (μ0 : o_Mem) : Option ((Nat × (Int32)) × o_Mem) :=
  if τ47 < 0 then (
    some ((204, 0), μ0))
  else (
    o_ck (0 ≤ (τ47).toInt ∧ (τ47).toInt < 4) <|
    o_ck (0 ≤ (τ47).toInt ∧ (τ47).toInt < 4) <|
    o_seq (o_wI μ0 (rf a0 28) τ47.toNatClampNeg ((μ0.1 (rf a0 28) τ47.toNatClampNeg) + 1)) fun μ1 =>
    o_ck (0 ≤ (τ47).toInt ∧ (τ47).toInt < 4) <|
    if (μ1.1 (rf a0 28) τ47.toNatClampNeg) = (μ1.1 (rf a0 0) 4) then (
      if (τ47 + (-1)) < 0 then (
        some ((47, (τ47 + (-1))), μ1))
      else (
        o_ck (0 ≤ (((τ47 + (-1)) + 1)).toInt ∧ (((τ47 + (-1)) + 1)).toInt < 4) <|
        o_bd (fX12_weighs rf a0 (τ47 + (-1)) (μ1.1 (rf a0 29) (((τ47 + (-1)) + 1)).toNatClampNeg) μ1) fun _u μ5 =>
        some ((47, (τ47 + (-1))), μ5)))
    else (
      o_ck (0 ≤ (τ47).toInt ∧ (τ47).toInt < 4) <|
      o_bd (fX12_isTaken rf a0 (μ1.1 (rf a0 28) τ47.toNatClampNeg) τ47 μ1) fun r1 μ2 =>
      if r1 = 0 then (
        o_ck (0 ≤ (τ47).toInt ∧ (τ47).toInt < 4) <|
        if (τ47 - τ47 / 2 * 2) = 0 then (
          o_ck (0 ≤ (τ47).toInt ∧ (τ47).toInt < 4) <|
          o_bd (fX12_worthBy rf a0 (μ2.1 (rf a0 28) τ47.toNatClampNeg) 1 μ2) fun r3 μ4 =>
          fX12_plays_j154 rf a0 x2 τ47 (μ2.1 (rf a0 30) τ47.toNatClampNeg) r3 μ4)
        else (
          o_ck (0 ≤ (τ47).toInt ∧ (τ47).toInt < 4) <|
          o_bd (fX12_worthBy rf a0 (μ2.1 (rf a0 28) τ47.toNatClampNeg) 0 μ2) fun r2 μ3 =>
          fX12_plays_j154 rf a0 x2 τ47 (μ2.1 (rf a0 30) τ47.toNatClampNeg) (-r2) μ3))
      else (
        some ((47, τ47), μ2))))
noncomputable def fX12_plays (rf : Nat → Nat → Nat) (a0 : Nat) (x1 : Int32) (μ0 : o_Mem) : Option (Int32 × o_Mem) :=
  o_seq (o_wI μ0 a0 31 (-1)) fun μ1 =>
  if (if x1 > (μ0.1 (rf a0 0) 4) then (μ0.1 (rf a0 0) 4) else x1) = 0 then (
    some (0, μ1))
  else (
    o_seq (o_wI μ1 (rf a0 28) 0 (-1)) fun μ2 =>
    o_seq (o_wI μ2 (rf a0 29) 0 1000000) fun μ3 =>
    o_seq (o_wI μ3 (rf a0 30) 0 0) fun μ4 =>
    o_bd (o_lp 47 (fX12_plays_s47 rf a0 (if x1 > (μ0.1 (rf a0 0) 4) then (μ0.1 (rf a0 0) 4) else x1)) o_fuel (0 : Int32) μ4) fun ex5 μ5 =>
    if ex5.1 = 204 then (
      some ((μ5.1 (rf a0 29) 0), μ5))
    else
      none)
set_option maxRecDepth 20000 in
theorem dnX12_plays_j154 {X : o_Cx} (hX : o_ok X) {d : Nat} {a0 : Nat} {x2 : Int32} {x3 : Int32} {y0 : Int32} {y1 : Int32} {μ0 : o_Mem} {K : (Nat × (Int32)) → o_Mem → Prop} {Q : Option Value → o_Mem → Prop} (h0 : o_is X a0 (.inl 12)) (h : o_Post (fX12_plays_j154 (o_rf X) a0 x2 x3 y0 y1 μ0) K) (kh : ∀ (τ47 : Int32) (μ : o_Mem), K (47, τ47) μ → o_Ev X (d + 4) mX12_plays 47 [some (.ref (o_ad X a0)), none, some (.int x2), some (.int τ47), none] [] μ Q) (k204 : ∀ (τ47 : Int32) (μ : o_Mem), K (204, τ47) μ → o_Ev X (d + 4) mX12_plays 204 [some (.ref (o_ad X a0)), none, none, none, none] [] μ Q) : o_Ev X (d + 4) mX12_plays 154 [some (.ref (o_ad X a0)), none, some (.int x2), some (.int x3), none] [.int y1, .int y0] μ0 Q := by
  unfold fX12_plays_j154 at h
  refine s_iadd dX12_plays_154 ?_
  refine s_istore dX12_plays_155 (Nat.le_of_ble_eq_true rfl) rfl ?_
  refine s_iload_n (i := 3) dX12_plays_157 rfl rfl ?_
  refine s_iconst dX12_plays_158 kI_1 ?_
  refine s_iadd dX12_plays_159 ?_
  refine s_iload_n (i := 2) dX12_plays_160 rfl rfl ?_
  refine s_icmp_ge (tgt := 194) dX12_plays_161 rfl (fun c1 => ?_) (fun c1 => ?_)
  · have h := o_if_t c1 h
    refine s_aload_n (i := 0) dX12_plays_194 rfl rfl ?_
    refine s_iload_n (i := 3) dX12_plays_195 rfl rfl ?_
    refine s_iload dX12_plays_196 rfl ?_
    refine s_callVu (C := mX12_weighs) (As := [.int x3, .int (y0 + y1)]) (rest := []) (L0 := [some (.ref (o_ad X a0)), some (.int x3), some (.int (y0 + y1))]) hX h0 clX12_432 dX12_plays_198 rfl rfl (Nat.le_of_ble_eq_true rfl) (Nat.le_of_ble_eq_true rfl) (dnX12_weighs hX h0 (o_bdp h)) (fun _u μ1 h => ?_)
    refine s_goto (tgt := 47) dX12_plays_201 rfl ?_
    refine s_mask [true, false, true, true, false] (L' := [some (.ref (o_ad X a0)), none, some (.int x2), some (.int x3), none]) rfl ?_
    exact kh x3 _ (o_ret h)
  · have h := o_if_f c1 h
    refine s_iinc (v := (x3 + 1)) dX12_plays_164 rfl rfl (Nat.le_of_ble_eq_true rfl) rfl ?_
    refine s_aload_n (i := 0) dX12_plays_167 rfl rfl ?_
    refine s_getR hX h0 flX12_59 rfl dX12_plays_168 (fun (g1 : o_is X (o_rf X a0 28) (.inr (0, 4))) => ?_)
    refine s_iload_n (i := 3) dX12_plays_171 rfl rfl ?_
    refine s_iconst dX12_plays_172 kI_m1 ?_
    have hc := o_ck_c h
    have h := o_ck_k h
    refine s_iastK hX g1 hc rfl dX12_plays_173 (o_gen h (fun μ2 h => ?_))
    refine s_aload_n (i := 0) dX12_plays_174 rfl rfl ?_
    refine s_getR hX h0 flX12_62 rfl dX12_plays_175 (fun (g2 : o_is X (o_rf X a0 29) (.inr (0, 4))) => ?_)
    refine s_iload_n (i := 3) dX12_plays_178 rfl rfl ?_
    refine s_ldcw (v := 1000000) w_8_198 dX12_plays_179 ?_
    have hc := o_ck_c h
    have h := o_ck_k h
    refine s_iastK hX g2 hc rfl dX12_plays_182 (o_gen h (fun μ3 h => ?_))
    refine s_aload_n (i := 0) dX12_plays_183 rfl rfl ?_
    refine s_getR hX h0 flX12_65 rfl dX12_plays_184 (fun (g3 : o_is X (o_rf X a0 30) (.inr (0, 4))) => ?_)
    refine s_iload_n (i := 3) dX12_plays_187 rfl rfl ?_
    refine s_iload dX12_plays_188 rfl ?_
    have hc := o_ck_c h
    have h := o_ck_k h
    refine s_iastK hX g3 hc rfl dX12_plays_190 (o_gen h (fun μ4 h => ?_))
    refine s_goto (tgt := 201) dX12_plays_191 rfl ?_
    refine s_goto (tgt := 47) dX12_plays_201 rfl ?_
    refine s_mask [true, false, true, true, false] (L' := [some (.ref (o_ad X a0)), none, some (.int x2), some (.int (x3 + 1)), none]) rfl ?_
    exact kh (x3 + 1) _ (o_ret h)
set_option maxRecDepth 20000 in
theorem dnX12_plays_s47 {X : o_Cx} (hX : o_ok X) {d : Nat} {a0 : Nat} {x2 : Int32} {τ47 : Int32} {μ0 : o_Mem} {K : (Nat × (Int32)) → o_Mem → Prop} {Q : Option Value → o_Mem → Prop} (h0 : o_is X a0 (.inl 12)) (h : o_Post (fX12_plays_s47 (o_rf X) a0 x2 τ47 μ0) K) (kh : ∀ (τ47 : Int32) (μ : o_Mem), K (47, τ47) μ → o_Ev X (d + 4) mX12_plays 47 [some (.ref (o_ad X a0)), none, some (.int x2), some (.int τ47), none] [] μ Q) (k204 : ∀ (τ47 : Int32) (μ : o_Mem), K (204, τ47) μ → o_Ev X (d + 4) mX12_plays 204 [some (.ref (o_ad X a0)), none, none, none, none] [] μ Q) : o_Ev X (d + 4) mX12_plays 47 [some (.ref (o_ad X a0)), none, some (.int x2), some (.int τ47), none] [] μ0 Q := by
  unfold fX12_plays_s47 at h
  refine s_iload_n (i := 3) dX12_plays_47 rfl rfl ?_
  refine s_if_lt (tgt := 204) dX12_plays_48 rfl (fun c1 => ?_) (fun c1 => ?_)
  · have h := o_if_t c1 h
    refine s_mask [true, false, false, false, false] (L' := [some (.ref (o_ad X a0)), none, none, none, none]) rfl ?_
    exact k204 0 _ (o_ret h)
  · have h := o_if_f c1 h
    refine s_aload_n (i := 0) dX12_plays_51 rfl rfl ?_
    refine s_getR hX h0 flX12_59 rfl dX12_plays_52 (fun (g1 : o_is X (o_rf X a0 28) (.inr (0, 4))) => ?_)
    refine s_iload_n (i := 3) dX12_plays_55 rfl rfl ?_
    refine s_dup2 dX12_plays_56 rfl rfl ?_
    have hc := o_ck_c h
    have h := o_ck_k h
    refine s_ialdK g1 hc rfl dX12_plays_57 ?_
    refine s_iconst dX12_plays_58 kI_1 ?_
    refine s_iadd dX12_plays_59 ?_
    have hc := o_ck_c h
    have h := o_ck_k h
    refine s_iastK hX g1 hc rfl dX12_plays_60 (o_gen h (fun μ1 h => ?_))
    refine s_aload_n (i := 0) dX12_plays_61 rfl rfl ?_
    refine s_getR hX h0 flX12_59 rfl dX12_plays_62 (fun (g2 : o_is X (o_rf X a0 28) (.inr (0, 4))) => ?_)
    refine s_iload_n (i := 3) dX12_plays_65 rfl rfl ?_
    have hc := o_ck_c h
    have h := o_ck_k h
    refine s_ialdK g2 hc rfl dX12_plays_66 ?_
    refine s_aload_n (i := 0) dX12_plays_67 rfl rfl ?_
    refine s_getR hX h0 flX12_7 rfl dX12_plays_68 (fun (g3 : o_is X (o_rf X a0 0) (.inr (0, 3756))) => ?_)
    refine s_iconst dX12_plays_71 kI_4 ?_
    refine s_ialdK g3 ⟨by decide, by decide⟩ kN_4 dX12_plays_72 ?_
    refine s_icmp_ne (tgt := 99) dX12_plays_73 rfl (fun c1 => ?_) (fun c1 => ?_)
    · have h := o_if_f c1 h
      refine s_aload_n (i := 0) dX12_plays_99 rfl rfl ?_
      refine s_aload_n (i := 0) dX12_plays_100 rfl rfl ?_
      refine s_getR hX h0 flX12_59 rfl dX12_plays_101 (fun (g4 : o_is X (o_rf X a0 28) (.inr (0, 4))) => ?_)
      refine s_iload_n (i := 3) dX12_plays_104 rfl rfl ?_
      have hc := o_ck_c h
      have h := o_ck_k h
      refine s_ialdK g4 hc rfl dX12_plays_105 ?_
      refine s_iload_n (i := 3) dX12_plays_106 rfl rfl ?_
      refine s_callVz (C := mX12_isTaken) (As := [.int (μ1.1 (o_rf X a0 28) τ47.toNatClampNeg), .int τ47]) (rest := []) (L0 := [some (.ref (o_ad X a0)), some (.int (μ1.1 (o_rf X a0 28) τ47.toNatClampNeg)), some (.int τ47), none]) hX h0 clX12_436 dX12_plays_107 rfl rfl (Nat.le_of_ble_eq_true rfl) (Nat.le_of_ble_eq_true rfl) (dnX12_isTaken hX h0 (o_bdp h)) (fun r1 μ2 zr1 h => ?_)
      refine s_if_eq (tgt := 116) dX12_plays_110 rfl (fun c1 => ?_) (fun c1 => ?_)
      · have h := o_if_t c1 h
        refine s_aload_n (i := 0) dX12_plays_116 rfl rfl ?_
        refine s_getR hX h0 flX12_65 rfl dX12_plays_117 (fun (g5 : o_is X (o_rf X a0 30) (.inr (0, 4))) => ?_)
        refine s_iload_n (i := 3) dX12_plays_120 rfl rfl ?_
        have hc := o_ck_c h
        have h := o_ck_k h
        refine s_ialdK g5 hc rfl dX12_plays_121 ?_
        refine s_iload_n (i := 3) dX12_plays_122 rfl rfl ?_
        refine s_iconst dX12_plays_123 kI_2 ?_
        refine s_irem dX12_plays_124 (by decide) ?_
        refine s_if_ne (tgt := 142) dX12_plays_125 rfl (fun c1 => ?_) (fun c1 => ?_)
        · have h := o_if_f c1 h
          refine s_aload_n (i := 0) dX12_plays_142 rfl rfl ?_
          refine s_aload_n (i := 0) dX12_plays_143 rfl rfl ?_
          refine s_getR hX h0 flX12_59 rfl dX12_plays_144 (fun (g6 : o_is X (o_rf X a0 28) (.inr (0, 4))) => ?_)
          refine s_iload_n (i := 3) dX12_plays_147 rfl rfl ?_
          have hc := o_ck_c h
          have h := o_ck_k h
          refine s_ialdK g6 hc rfl dX12_plays_148 ?_
          refine s_iconst dX12_plays_149 kI_0 ?_
          refine s_callVi (C := mX12_worthBy) (As := [.int (μ2.1 (o_rf X a0 28) τ47.toNatClampNeg), .int 0]) (rest := [.int (μ2.1 (o_rf X a0 30) τ47.toNatClampNeg)]) (L0 := [some (.ref (o_ad X a0)), some (.int (μ2.1 (o_rf X a0 28) τ47.toNatClampNeg)), some (.int 0), none, none]) hX h0 clX12_439 dX12_plays_150 rfl rfl (Nat.le_of_ble_eq_true rfl) (Nat.le_of_ble_eq_true rfl) (dnX12_worthBy hX h0 (o_bdp h)) (fun r2 μ3 h => ?_)
          refine s_ineg dX12_plays_153 ?_
          refine s_mask [true, false, true, true, false] (L' := [some (.ref (o_ad X a0)), none, some (.int x2), some (.int τ47), none]) rfl ?_
          exact dnX12_plays_j154 hX h0 h kh k204
        · have h := o_if_t c1 h
          refine s_aload_n (i := 0) dX12_plays_128 rfl rfl ?_
          refine s_aload_n (i := 0) dX12_plays_129 rfl rfl ?_
          refine s_getR hX h0 flX12_59 rfl dX12_plays_130 (fun (g7 : o_is X (o_rf X a0 28) (.inr (0, 4))) => ?_)
          refine s_iload_n (i := 3) dX12_plays_133 rfl rfl ?_
          have hc := o_ck_c h
          have h := o_ck_k h
          refine s_ialdK g7 hc rfl dX12_plays_134 ?_
          refine s_iconst dX12_plays_135 kI_1 ?_
          refine s_callVi (C := mX12_worthBy) (As := [.int (μ2.1 (o_rf X a0 28) τ47.toNatClampNeg), .int 1]) (rest := [.int (μ2.1 (o_rf X a0 30) τ47.toNatClampNeg)]) (L0 := [some (.ref (o_ad X a0)), some (.int (μ2.1 (o_rf X a0 28) τ47.toNatClampNeg)), some (.int 1), none, none]) hX h0 clX12_439 dX12_plays_136 rfl rfl (Nat.le_of_ble_eq_true rfl) (Nat.le_of_ble_eq_true rfl) (dnX12_worthBy hX h0 (o_bdp h)) (fun r3 μ4 h => ?_)
          refine s_goto (tgt := 154) dX12_plays_139 rfl ?_
          refine s_mask [true, false, true, true, false] (L' := [some (.ref (o_ad X a0)), none, some (.int x2), some (.int τ47), none]) rfl ?_
          exact dnX12_plays_j154 hX h0 h kh k204
      · have h := o_if_f c1 h
        refine s_goto (tgt := 47) dX12_plays_113 rfl ?_
        refine s_mask [true, false, true, true, false] (L' := [some (.ref (o_ad X a0)), none, some (.int x2), some (.int τ47), none]) rfl ?_
        exact kh τ47 _ (o_ret h)
    · have h := o_if_t c1 h
      refine s_iinc (v := (τ47 + (-1))) dX12_plays_76 rfl rfl (Nat.le_of_ble_eq_true rfl) rfl ?_
      refine s_iload_n (i := 3) dX12_plays_79 rfl rfl ?_
      refine s_if_lt (tgt := 47) dX12_plays_80 rfl (fun c1 => ?_) (fun c1 => ?_)
      · have h := o_if_t c1 h
        refine s_mask [true, false, true, true, false] (L' := [some (.ref (o_ad X a0)), none, some (.int x2), some (.int (τ47 + (-1))), none]) rfl ?_
        exact kh (τ47 + (-1)) _ (o_ret h)
      · have h := o_if_f c1 h
        refine s_aload_n (i := 0) dX12_plays_83 rfl rfl ?_
        refine s_iload_n (i := 3) dX12_plays_84 rfl rfl ?_
        refine s_aload_n (i := 0) dX12_plays_85 rfl rfl ?_
        refine s_getR hX h0 flX12_62 rfl dX12_plays_86 (fun (g8 : o_is X (o_rf X a0 29) (.inr (0, 4))) => ?_)
        refine s_iload_n (i := 3) dX12_plays_89 rfl rfl ?_
        refine s_iconst dX12_plays_90 kI_1 ?_
        refine s_iadd dX12_plays_91 ?_
        have hc := o_ck_c h
        have h := o_ck_k h
        refine s_ialdK g8 hc rfl dX12_plays_92 ?_
        refine s_callVu (C := mX12_weighs) (As := [.int (τ47 + (-1)), .int (μ1.1 (o_rf X a0 29) (((τ47 + (-1)) + 1)).toNatClampNeg)]) (rest := []) (L0 := [some (.ref (o_ad X a0)), some (.int (τ47 + (-1))), some (.int (μ1.1 (o_rf X a0 29) (((τ47 + (-1)) + 1)).toNatClampNeg))]) hX h0 clX12_432 dX12_plays_93 rfl rfl (Nat.le_of_ble_eq_true rfl) (Nat.le_of_ble_eq_true rfl) (dnX12_weighs hX h0 (o_bdp h)) (fun _u μ5 h => ?_)
        refine s_goto (tgt := 47) dX12_plays_96 rfl ?_
        refine s_mask [true, false, true, true, false] (L' := [some (.ref (o_ad X a0)), none, some (.int x2), some (.int (τ47 + (-1))), none]) rfl ?_
        exact kh (τ47 + (-1)) _ (o_ret h)
set_option maxRecDepth 20000 in
theorem dnX12_plays {X : o_Cx} (hX : o_ok X) {d : Nat} {a0 : Nat} {x1 : Int32} {μ0 : o_Mem} {q : Int32 → o_Mem → Prop} (h0 : o_is X a0 (.inl 12)) (h : o_Post (fX12_plays (o_rf X) a0 x1 μ0) q) : o_Ev X (d + 4) mX12_plays 0 [some (.ref (o_ad X a0)), some (.int x1), none, none, none] [] μ0 (o_QI q) := by
  unfold fX12_plays at h
  refine s_iload_n (i := 1) dX12_plays_0 rfl rfl ?_
  refine s_aload_n (i := 0) dX12_plays_1 rfl rfl ?_
  refine s_getR hX h0 flX12_7 rfl dX12_plays_2 (fun (g1 : o_is X (o_rf X a0 0) (.inr (0, 3756))) => ?_)
  refine s_iconst dX12_plays_5 kI_4 ?_
  refine s_ialdK g1 ⟨by decide, by decide⟩ kN_4 dX12_plays_6 ?_
  refine s_min mlX12_142 mst_min mini mco_min (Nat.le_of_ble_eq_true rfl) dX12_plays_7 ?_
  refine s_istore_n (i := 2) dX12_plays_10 rfl (Nat.le_of_ble_eq_true rfl) rfl ?_
  refine s_aload_n (i := 0) dX12_plays_11 rfl rfl ?_
  refine s_iconst dX12_plays_12 kI_m1 ?_
  refine s_putI hX h0 fwX12_429 rfl dX12_plays_13 (o_gen h (fun μ1 h => ?_))
  refine s_iload_n (i := 2) dX12_plays_16 rfl rfl ?_
  refine s_if_ne (tgt := 22) dX12_plays_17 rfl (fun c1 => ?_) (fun c1 => ?_)
  · have h := o_if_f c1 h
    refine s_iconst dX12_plays_22 kI_0 ?_
    refine s_istore_n (i := 3) dX12_plays_23 rfl (Nat.le_of_ble_eq_true rfl) rfl ?_
    refine s_aload_n (i := 0) dX12_plays_24 rfl rfl ?_
    refine s_getR hX h0 flX12_59 rfl dX12_plays_25 (fun (g2 : o_is X (o_rf X a0 28) (.inr (0, 4))) => ?_)
    refine s_iconst dX12_plays_28 kI_0 ?_
    refine s_iconst dX12_plays_29 kI_m1 ?_
    refine s_iastK hX g2 ⟨by decide, by decide⟩ kN_0 dX12_plays_30 (o_gen h (fun μ2 h => ?_))
    refine s_aload_n (i := 0) dX12_plays_31 rfl rfl ?_
    refine s_getR hX h0 flX12_62 rfl dX12_plays_32 (fun (g3 : o_is X (o_rf X a0 29) (.inr (0, 4))) => ?_)
    refine s_iconst dX12_plays_35 kI_0 ?_
    refine s_ldcw (v := 1000000) w_8_198 dX12_plays_36 ?_
    refine s_iastK hX g3 ⟨by decide, by decide⟩ kN_0 dX12_plays_39 (o_gen h (fun μ3 h => ?_))
    refine s_aload_n (i := 0) dX12_plays_40 rfl rfl ?_
    refine s_getR hX h0 flX12_65 rfl dX12_plays_41 (fun (g4 : o_is X (o_rf X a0 30) (.inr (0, 4))) => ?_)
    refine s_iconst dX12_plays_44 kI_0 ?_
    refine s_iconst dX12_plays_45 kI_0 ?_
    refine s_iastK hX g4 ⟨by decide, by decide⟩ kN_0 dX12_plays_46 (o_gen h (fun μ4 h => ?_))
    refine s_mask [true, false, true, true, false] (L' := [some (.ref (o_ad X a0)), none, some (.int (if x1 > (μ0.1 (o_rf X a0 0) 4) then (μ0.1 (o_rf X a0 0) 4) else x1)), some (.int 0), none]) rfl ?_
    refine o_lp_ev (fun τ47 => [some (.ref (o_ad X a0)), none, some (.int (if x1 > (μ0.1 (o_rf X a0 0) 4) then (μ0.1 (o_rf X a0 0) 4) else x1)), some (.int τ47), none]) (fun τ47 μ _K h kv ke47 => dnX12_plays_s47 hX h0 h kv (fun τ47 μ5 h => ?_)) o_fuel 0 μ4 (o_bdp h)
    · have h := o_if_t rfl (ke47 (204, τ47) μ5 (o_ne rfl) h)
      refine s_aload_n (i := 0) dX12_plays_204 rfl rfl ?_
      refine s_getR hX h0 flX12_62 rfl dX12_plays_205 (fun (g5 : o_is X (o_rf X a0 29) (.inr (0, 4))) => ?_)
      refine s_iconst dX12_plays_208 kI_0 ?_
      refine s_ialdK g5 ⟨by decide, by decide⟩ kN_0 dX12_plays_209 ?_
      exact s_ireturn rfl dX12_plays_210 ⟨_, rfl, o_ret h⟩
  · have h := o_if_t c1 h
    refine s_iconst dX12_plays_20 kI_0 ?_
    exact s_ireturn rfl dX12_plays_21 ⟨_, rfl, o_ret h⟩
theorem dX12_areTurns_0 : decode cX12_areTurns 0 = .ok (.iload_n 0, 1) := by decide +kernel
theorem dX12_areTurns_1 : decode cX12_areTurns 1 = .ok (.iconst 1, 1) := by decide +kernel
theorem dX12_areTurns_2 : decode cX12_areTurns 2 = .ok (.if_icmp .lt 12, 3) := by decide +kernel
theorem dX12_areTurns_5 : decode cX12_areTurns 5 = .ok (.iload_n 0, 1) := by decide +kernel
theorem dX12_areTurns_6 : decode cX12_areTurns 6 = .ok (.iconst 3, 1) := by decide +kernel
theorem dX12_areTurns_7 : decode cX12_areTurns 7 = .ok (.if_icmp .gt 7, 3) := by decide +kernel
theorem dX12_areTurns_10 : decode cX12_areTurns 10 = .ok (.iconst 1, 1) := by decide +kernel
theorem dX12_areTurns_11 : decode cX12_areTurns 11 = .ok (.goto 4, 3) := by decide +kernel
theorem dX12_areTurns_14 : decode cX12_areTurns 14 = .ok (.iconst 0, 1) := by decide +kernel
theorem dX12_areTurns_15 : decode cX12_areTurns 15 = .ok (.ireturn, 1) := by decide +kernel
noncomputable def fX12_areTurns (rf : Nat → Nat → Nat) (x0 : Int32) (μ0 : o_Mem) : Option (Int32 × o_Mem) :=
  if x0 < 1 then (
    some (0, μ0))
  else (
    if 3 < x0 then (
      some (0, μ0))
    else (
      some (1, μ0)))
set_option maxRecDepth 20000 in
theorem dnX12_areTurns {X : o_Cx} (hX : o_ok X) {d : Nat} {x0 : Int32} {μ0 : o_Mem} {q : Int32 → o_Mem → Prop}  (h : o_Post (fX12_areTurns (o_rf X) x0 μ0) q) : o_Ev X (d + 0) mX12_areTurns 0 [some (.int x0)] [] μ0 (o_QZ q) := by
  unfold fX12_areTurns at h
  refine s_iload_n (i := 0) dX12_areTurns_0 rfl rfl ?_
  refine s_iconst dX12_areTurns_1 kI_1 ?_
  refine s_icmp_lt (tgt := 14) dX12_areTurns_2 rfl (fun c1 => ?_) (fun c1 => ?_)
  · have h := o_if_t c1 h
    refine s_iconst dX12_areTurns_14 kI_0 ?_
    exact s_zreturn rfl (Or.inl rfl) dX12_areTurns_15 ⟨_, rfl, (Or.inl rfl), o_ret h⟩
  · have h := o_if_f c1 h
    refine s_iload_n (i := 0) dX12_areTurns_5 rfl rfl ?_
    refine s_iconst dX12_areTurns_6 kI_3 ?_
    refine s_icmp_gt (tgt := 14) dX12_areTurns_7 rfl (fun c1 => ?_) (fun c1 => ?_)
    · have h := o_if_t c1 h
      refine s_iconst dX12_areTurns_14 kI_0 ?_
      exact s_zreturn rfl (Or.inl rfl) dX12_areTurns_15 ⟨_, rfl, (Or.inl rfl), o_ret h⟩
    · have h := o_if_f c1 h
      refine s_iconst dX12_areTurns_10 kI_1 ?_
      refine s_goto (tgt := 15) dX12_areTurns_11 rfl ?_
      exact s_zreturn rfl (Or.inr rfl) dX12_areTurns_15 ⟨_, rfl, (Or.inr rfl), o_ret h⟩
theorem dX12_game_0 : decode cX12_game 0 = .ok (.iload_n 1, 1) := by decide +kernel
theorem dX12_game_1 : decode cX12_game 1 = .ok (.invokestatic 443, 3) := by decide +kernel
theorem dX12_game_4 : decode cX12_game 4 = .ok (.ifCond .eq 15, 3) := by decide +kernel
theorem dX12_game_7 : decode cX12_game 7 = .ok (.aload_n 0, 1) := by decide +kernel
theorem dX12_game_8 : decode cX12_game 8 = .ok (.aload_n 0, 1) := by decide +kernel
theorem dX12_game_9 : decode cX12_game 9 = .ok (.iload_n 1, 1) := by decide +kernel
theorem dX12_game_10 : decode cX12_game 10 = .ok (.invokevirtual 446, 3) := by decide +kernel
theorem dX12_game_13 : decode cX12_game 13 = .ok (.invokevirtual 91, 3) := by decide +kernel
theorem dX12_game_16 : decode cX12_game 16 = .ok (.goto 8, 3) := by decide +kernel
theorem dX12_game_19 : decode cX12_game 19 = .ok (.aload_n 0, 1) := by decide +kernel
theorem dX12_game_20 : decode cX12_game 20 = .ok (.iconst 1, 1) := by decide +kernel
theorem dX12_game_21 : decode cX12_game 21 = .ok (.invokevirtual 87, 3) := by decide +kernel
theorem dX12_game_24 : decode cX12_game 24 = .ok (.ireturn, 1) := by decide +kernel
noncomputable def fX12_game (rf : Nat → Nat → Nat) (a0 : Nat) (x1 : Int32) (μ0 : o_Mem) : Option (Int32 × o_Mem) :=
  o_bd (fX12_areTurns rf x1 μ0) fun r1 μ1 =>
  if r1 = 0 then (
    o_bd (fX12_refuse rf a0 1 μ1) fun r2 μ2 =>
    some (r2, μ2))
  else (
    o_bd (fX12_plays rf a0 x1 μ1) fun r3 μ3 =>
    o_bd (fX12_gives rf a0 r3 μ3) fun r4 μ4 =>
    some (r4, μ4))
set_option maxRecDepth 20000 in
theorem dnX12_game {X : o_Cx} (hX : o_ok X) {d : Nat} {a0 : Nat} {x1 : Int32} {μ0 : o_Mem} {q : Int32 → o_Mem → Prop} (h0 : o_is X a0 (.inl 12)) (h : o_Post (fX12_game (o_rf X) a0 x1 μ0) q) : o_Ev X (d + 5) mX12_game 0 [some (.ref (o_ad X a0)), some (.int x1)] [] μ0 (o_QI q) := by
  unfold fX12_game at h
  refine s_iload_n (i := 1) dX12_game_0 rfl rfl ?_
  refine s_callSz (C := mX12_areTurns) (As := [.int x1]) (rest := []) (L0 := [some (.int x1)]) clX12_443 dX12_game_1 rfl rfl (Nat.le_of_ble_eq_true rfl) (Nat.le_of_ble_eq_true rfl) (dnX12_areTurns hX  (o_bdp h)) (fun r1 μ1 zr1 h => ?_)
  refine s_if_eq (tgt := 19) dX12_game_4 rfl (fun c1 => ?_) (fun c1 => ?_)
  · have h := o_if_t c1 h
    refine s_aload_n (i := 0) dX12_game_19 rfl rfl ?_
    refine s_iconst dX12_game_20 kI_1 ?_
    refine s_callVi (C := mX12_refuse) (As := [.int 1]) (rest := []) (L0 := [some (.ref (o_ad X a0)), some (.int 1)]) hX h0 clX12_87 dX12_game_21 rfl rfl (Nat.le_of_ble_eq_true rfl) (Nat.le_of_ble_eq_true rfl) (dnX12_refuse hX h0 (o_bdp h)) (fun r2 μ2 h => ?_)
    exact s_ireturn rfl dX12_game_24 ⟨_, rfl, o_ret h⟩
  · have h := o_if_f c1 h
    refine s_aload_n (i := 0) dX12_game_7 rfl rfl ?_
    refine s_aload_n (i := 0) dX12_game_8 rfl rfl ?_
    refine s_iload_n (i := 1) dX12_game_9 rfl rfl ?_
    refine s_callVi (C := mX12_plays) (As := [.int x1]) (rest := [.ref (o_ad X a0)]) (L0 := [some (.ref (o_ad X a0)), some (.int x1), none, none, none]) hX h0 clX12_446 dX12_game_10 rfl rfl (Nat.le_of_ble_eq_true rfl) (Nat.le_of_ble_eq_true rfl) (dnX12_plays hX h0 (o_bdp h)) (fun r3 μ3 h => ?_)
    refine s_callVi (C := mX12_gives) (As := [.int r3]) (rest := []) (L0 := [some (.ref (o_ad X a0)), some (.int r3)]) hX h0 clX12_91 dX12_game_13 rfl rfl (Nat.le_of_ble_eq_true rfl) (Nat.le_of_ble_eq_true rfl) (dnX12_gives hX h0 (o_bdp h)) (fun r4 μ4 h => ?_)
    refine s_goto (tgt := 24) dX12_game_16 rfl ?_
    exact s_ireturn rfl dX12_game_24 ⟨_, rfl, o_ret h⟩
theorem dX12_gameFirst_0 : decode cX12_gameFirst 0 = .ok (.iload_n 1, 1) := by decide +kernel
theorem dX12_gameFirst_1 : decode cX12_gameFirst 1 = .ok (.invokestatic 443, 3) := by decide +kernel
theorem dX12_gameFirst_4 : decode cX12_gameFirst 4 = .ok (.ifCond .ne 9, 3) := by decide +kernel
theorem dX12_gameFirst_7 : decode cX12_gameFirst 7 = .ok (.aload_n 0, 1) := by decide +kernel
theorem dX12_gameFirst_8 : decode cX12_gameFirst 8 = .ok (.iconst 1, 1) := by decide +kernel
theorem dX12_gameFirst_9 : decode cX12_gameFirst 9 = .ok (.invokevirtual 87, 3) := by decide +kernel
theorem dX12_gameFirst_12 : decode cX12_gameFirst 12 = .ok (.ireturn, 1) := by decide +kernel
theorem dX12_gameFirst_13 : decode cX12_gameFirst 13 = .ok (.aload_n 0, 1) := by decide +kernel
theorem dX12_gameFirst_14 : decode cX12_gameFirst 14 = .ok (.iload_n 1, 1) := by decide +kernel
theorem dX12_gameFirst_15 : decode cX12_gameFirst 15 = .ok (.invokevirtual 446, 3) := by decide +kernel
theorem dX12_gameFirst_18 : decode cX12_gameFirst 18 = .ok (.pop, 1) := by decide +kernel
theorem dX12_gameFirst_19 : decode cX12_gameFirst 19 = .ok (.aload_n 0, 1) := by decide +kernel
theorem dX12_gameFirst_20 : decode cX12_gameFirst 20 = .ok (.aload_n 0, 1) := by decide +kernel
theorem dX12_gameFirst_21 : decode cX12_gameFirst 21 = .ok (.getfield 429, 3) := by decide +kernel
theorem dX12_gameFirst_24 : decode cX12_gameFirst 24 = .ok (.invokevirtual 299, 3) := by decide +kernel
theorem dX12_gameFirst_27 : decode cX12_gameFirst 27 = .ok (.ireturn, 1) := by decide +kernel
noncomputable def fX12_gameFirst (rf : Nat → Nat → Nat) (a0 : Nat) (x1 : Int32) (μ0 : o_Mem) : Option (Int32 × o_Mem) :=
  o_bd (fX12_areTurns rf x1 μ0) fun r1 μ1 =>
  if r1 = 0 then (
    o_bd (fX12_refuse rf a0 1 μ1) fun r4 μ4 =>
    some (r4, μ4))
  else (
    o_bd (fX12_plays rf a0 x1 μ1) fun r2 μ2 =>
    o_bd (fX12_orNone rf a0 (μ2.1 a0 31) μ2) fun r3 μ3 =>
    some (r3, μ3))
set_option maxRecDepth 20000 in
theorem dnX12_gameFirst {X : o_Cx} (hX : o_ok X) {d : Nat} {a0 : Nat} {x1 : Int32} {μ0 : o_Mem} {q : Int32 → o_Mem → Prop} (h0 : o_is X a0 (.inl 12)) (h : o_Post (fX12_gameFirst (o_rf X) a0 x1 μ0) q) : o_Ev X (d + 5) mX12_gameFirst 0 [some (.ref (o_ad X a0)), some (.int x1)] [] μ0 (o_QI q) := by
  unfold fX12_gameFirst at h
  refine s_iload_n (i := 1) dX12_gameFirst_0 rfl rfl ?_
  refine s_callSz (C := mX12_areTurns) (As := [.int x1]) (rest := []) (L0 := [some (.int x1)]) clX12_443 dX12_gameFirst_1 rfl rfl (Nat.le_of_ble_eq_true rfl) (Nat.le_of_ble_eq_true rfl) (dnX12_areTurns hX  (o_bdp h)) (fun r1 μ1 zr1 h => ?_)
  refine s_if_ne (tgt := 13) dX12_gameFirst_4 rfl (fun c1 => ?_) (fun c1 => ?_)
  · have h := o_if_f c1 h
    refine s_aload_n (i := 0) dX12_gameFirst_13 rfl rfl ?_
    refine s_iload_n (i := 1) dX12_gameFirst_14 rfl rfl ?_
    refine s_callVi (C := mX12_plays) (As := [.int x1]) (rest := []) (L0 := [some (.ref (o_ad X a0)), some (.int x1), none, none, none]) hX h0 clX12_446 dX12_gameFirst_15 rfl rfl (Nat.le_of_ble_eq_true rfl) (Nat.le_of_ble_eq_true rfl) (dnX12_plays hX h0 (o_bdp h)) (fun r2 μ2 h => ?_)
    refine s_pop dX12_gameFirst_18 rfl ?_
    refine s_aload_n (i := 0) dX12_gameFirst_19 rfl rfl ?_
    refine s_aload_n (i := 0) dX12_gameFirst_20 rfl rfl ?_
    refine s_getI h0 flX12_429 rfl dX12_gameFirst_21 ?_
    refine s_callVi (C := mX12_orNone) (As := [.int (μ2.1 a0 31)]) (rest := []) (L0 := [some (.ref (o_ad X a0)), some (.int (μ2.1 a0 31))]) hX h0 clX12_299 dX12_gameFirst_24 rfl rfl (Nat.le_of_ble_eq_true rfl) (Nat.le_of_ble_eq_true rfl) (dnX12_orNone hX h0 (o_bdp h)) (fun r3 μ3 h => ?_)
    exact s_ireturn rfl dX12_gameFirst_27 ⟨_, rfl, o_ret h⟩
  · have h := o_if_t c1 h
    refine s_aload_n (i := 0) dX12_gameFirst_7 rfl rfl ?_
    refine s_iconst dX12_gameFirst_8 kI_1 ?_
    refine s_callVi (C := mX12_refuse) (As := [.int 1]) (rest := []) (L0 := [some (.ref (o_ad X a0)), some (.int 1)]) hX h0 clX12_87 dX12_gameFirst_9 rfl rfl (Nat.le_of_ble_eq_true rfl) (Nat.le_of_ble_eq_true rfl) (dnX12_refuse hX h0 (o_bdp h)) (fun r4 μ4 h => ?_)
    exact s_ireturn rfl dX12_gameFirst_12 ⟨_, rfl, o_ret h⟩
theorem dX12_brother_0 : decode cX12_brother 0 = .ok (.aload_n 0, 1) := by decide +kernel
theorem dX12_brother_1 : decode cX12_brother 1 = .ok (.iload_n 1, 1) := by decide +kernel
theorem dX12_brother_2 : decode cX12_brother 2 = .ok (.invokevirtual 305, 3) := by decide +kernel
theorem dX12_brother_5 : decode cX12_brother 5 = .ok (.ifCond .ne 9, 3) := by decide +kernel
theorem dX12_brother_8 : decode cX12_brother 8 = .ok (.aload_n 0, 1) := by decide +kernel
theorem dX12_brother_9 : decode cX12_brother 9 = .ok (.iconst 1, 1) := by decide +kernel
theorem dX12_brother_10 : decode cX12_brother 10 = .ok (.invokevirtual 87, 3) := by decide +kernel
theorem dX12_brother_13 : decode cX12_brother 13 = .ok (.ireturn, 1) := by decide +kernel
theorem dX12_brother_14 : decode cX12_brother 14 = .ok (.iload_n 1, 1) := by decide +kernel
theorem dX12_brother_15 : decode cX12_brother 15 = .ok (.invokestatic 308, 3) := by decide +kernel
theorem dX12_brother_18 : decode cX12_brother 18 = .ok (.istore_n 2, 1) := by decide +kernel
theorem dX12_brother_19 : decode cX12_brother 19 = .ok (.aload_n 0, 1) := by decide +kernel
theorem dX12_brother_20 : decode cX12_brother 20 = .ok (.aload_n 0, 1) := by decide +kernel
theorem dX12_brother_21 : decode cX12_brother 21 = .ok (.aload_n 0, 1) := by decide +kernel
theorem dX12_brother_22 : decode cX12_brother 22 = .ok (.aload_n 0, 1) := by decide +kernel
theorem dX12_brother_23 : decode cX12_brother 23 = .ok (.getfield 7, 3) := by decide +kernel
theorem dX12_brother_26 : decode cX12_brother 26 = .ok (.iload_n 2, 1) := by decide +kernel
theorem dX12_brother_27 : decode cX12_brother 27 = .ok (.iaload, 1) := by decide +kernel
theorem dX12_brother_28 : decode cX12_brother 28 = .ok (.aload_n 0, 1) := by decide +kernel
theorem dX12_brother_29 : decode cX12_brother 29 = .ok (.getfield 7, 3) := by decide +kernel
theorem dX12_brother_32 : decode cX12_brother 32 = .ok (.iload_n 2, 1) := by decide +kernel
theorem dX12_brother_33 : decode cX12_brother 33 = .ok (.iconst 1, 1) := by decide +kernel
theorem dX12_brother_34 : decode cX12_brother 34 = .ok (.iadd, 1) := by decide +kernel
theorem dX12_brother_35 : decode cX12_brother 35 = .ok (.iaload, 1) := by decide +kernel
theorem dX12_brother_36 : decode cX12_brother 36 = .ok (.aload_n 0, 1) := by decide +kernel
theorem dX12_brother_37 : decode cX12_brother 37 = .ok (.getfield 7, 3) := by decide +kernel
theorem dX12_brother_40 : decode cX12_brother 40 = .ok (.iload_n 2, 1) := by decide +kernel
theorem dX12_brother_41 : decode cX12_brother 41 = .ok (.iconst 2, 1) := by decide +kernel
theorem dX12_brother_42 : decode cX12_brother 42 = .ok (.iadd, 1) := by decide +kernel
theorem dX12_brother_43 : decode cX12_brother 43 = .ok (.iaload, 1) := by decide +kernel
theorem dX12_brother_44 : decode cX12_brother 44 = .ok (.aload_n 0, 1) := by decide +kernel
theorem dX12_brother_45 : decode cX12_brother 45 = .ok (.getfield 7, 3) := by decide +kernel
theorem dX12_brother_48 : decode cX12_brother 48 = .ok (.iload_n 2, 1) := by decide +kernel
theorem dX12_brother_49 : decode cX12_brother 49 = .ok (.iconst 3, 1) := by decide +kernel
theorem dX12_brother_50 : decode cX12_brother 50 = .ok (.iadd, 1) := by decide +kernel
theorem dX12_brother_51 : decode cX12_brother 51 = .ok (.iaload, 1) := by decide +kernel
theorem dX12_brother_52 : decode cX12_brother 52 = .ok (.invokevirtual 426, 3) := by decide +kernel
theorem dX12_brother_55 : decode cX12_brother 55 = .ok (.invokevirtual 322, 3) := by decide +kernel
theorem dX12_brother_58 : decode cX12_brother 58 = .ok (.invokevirtual 299, 3) := by decide +kernel
theorem dX12_brother_61 : decode cX12_brother 61 = .ok (.ireturn, 1) := by decide +kernel
noncomputable def fX12_brother (rf : Nat → Nat → Nat) (a0 : Nat) (x1 : Int32) (μ0 : o_Mem) : Option (Int32 × o_Mem) :=
  o_bd (fX12_isLetter rf a0 x1 μ0) fun r1 μ1 =>
  if r1 = 0 then (
    o_bd (fX12_refuse rf a0 1 μ1) fun r6 μ6 =>
    some (r6, μ6))
  else (
    o_bd (fX12_letterRow rf x1 μ1) fun r2 μ2 =>
    o_ck (0 ≤ (r2).toInt ∧ (r2).toInt < 3756) <|
    o_ck (0 ≤ ((r2 + 1)).toInt ∧ ((r2 + 1)).toInt < 3756) <|
    o_ck (0 ≤ ((r2 + 2)).toInt ∧ ((r2 + 2)).toInt < 3756) <|
    o_ck (0 ≤ ((r2 + 3)).toInt ∧ ((r2 + 3)).toInt < 3756) <|
    o_bd (fX12_lastLaw rf a0 (μ2.1 (rf a0 0) r2.toNatClampNeg) (μ2.1 (rf a0 0) ((r2 + 1)).toNatClampNeg) (μ2.1 (rf a0 0) ((r2 + 2)).toNatClampNeg) (μ2.1 (rf a0 0) ((r2 + 3)).toNatClampNeg) μ2) fun r3 μ3 =>
    o_bd (fX12_strikeBy rf a0 r3 μ3) fun r4 μ4 =>
    o_bd (fX12_orNone rf a0 r4 μ4) fun r5 μ5 =>
    some (r5, μ5))
set_option maxRecDepth 20000 in
theorem dnX12_brother {X : o_Cx} (hX : o_ok X) {d : Nat} {a0 : Nat} {x1 : Int32} {μ0 : o_Mem} {q : Int32 → o_Mem → Prop} (h0 : o_is X a0 (.inl 12)) (h : o_Post (fX12_brother (o_rf X) a0 x1 μ0) q) : o_Ev X (d + 3) mX12_brother 0 [some (.ref (o_ad X a0)), some (.int x1), none] [] μ0 (o_QI q) := by
  unfold fX12_brother at h
  refine s_aload_n (i := 0) dX12_brother_0 rfl rfl ?_
  refine s_iload_n (i := 1) dX12_brother_1 rfl rfl ?_
  refine s_callVz (C := mX12_isLetter) (As := [.int x1]) (rest := []) (L0 := [some (.ref (o_ad X a0)), some (.int x1)]) hX h0 clX12_305 dX12_brother_2 rfl rfl (Nat.le_of_ble_eq_true rfl) (Nat.le_of_ble_eq_true rfl) (dnX12_isLetter hX h0 (o_bdp h)) (fun r1 μ1 zr1 h => ?_)
  refine s_if_ne (tgt := 14) dX12_brother_5 rfl (fun c1 => ?_) (fun c1 => ?_)
  · have h := o_if_f c1 h
    refine s_iload_n (i := 1) dX12_brother_14 rfl rfl ?_
    refine s_callSi (C := mX12_letterRow) (As := [.int x1]) (rest := []) (L0 := [some (.int x1)]) clX12_308 dX12_brother_15 rfl rfl (Nat.le_of_ble_eq_true rfl) (Nat.le_of_ble_eq_true rfl) (dnX12_letterRow hX  (o_bdp h)) (fun r2 μ2 h => ?_)
    refine s_istore_n (i := 2) dX12_brother_18 rfl (Nat.le_of_ble_eq_true rfl) rfl ?_
    refine s_aload_n (i := 0) dX12_brother_19 rfl rfl ?_
    refine s_aload_n (i := 0) dX12_brother_20 rfl rfl ?_
    refine s_aload_n (i := 0) dX12_brother_21 rfl rfl ?_
    refine s_aload_n (i := 0) dX12_brother_22 rfl rfl ?_
    refine s_getR hX h0 flX12_7 rfl dX12_brother_23 (fun (g1 : o_is X (o_rf X a0 0) (.inr (0, 3756))) => ?_)
    refine s_iload_n (i := 2) dX12_brother_26 rfl rfl ?_
    have hc := o_ck_c h
    have h := o_ck_k h
    refine s_ialdK g1 hc rfl dX12_brother_27 ?_
    refine s_aload_n (i := 0) dX12_brother_28 rfl rfl ?_
    refine s_getR hX h0 flX12_7 rfl dX12_brother_29 (fun (g2 : o_is X (o_rf X a0 0) (.inr (0, 3756))) => ?_)
    refine s_iload_n (i := 2) dX12_brother_32 rfl rfl ?_
    refine s_iconst dX12_brother_33 kI_1 ?_
    refine s_iadd dX12_brother_34 ?_
    have hc := o_ck_c h
    have h := o_ck_k h
    refine s_ialdK g2 hc rfl dX12_brother_35 ?_
    refine s_aload_n (i := 0) dX12_brother_36 rfl rfl ?_
    refine s_getR hX h0 flX12_7 rfl dX12_brother_37 (fun (g3 : o_is X (o_rf X a0 0) (.inr (0, 3756))) => ?_)
    refine s_iload_n (i := 2) dX12_brother_40 rfl rfl ?_
    refine s_iconst dX12_brother_41 kI_2 ?_
    refine s_iadd dX12_brother_42 ?_
    have hc := o_ck_c h
    have h := o_ck_k h
    refine s_ialdK g3 hc rfl dX12_brother_43 ?_
    refine s_aload_n (i := 0) dX12_brother_44 rfl rfl ?_
    refine s_getR hX h0 flX12_7 rfl dX12_brother_45 (fun (g4 : o_is X (o_rf X a0 0) (.inr (0, 3756))) => ?_)
    refine s_iload_n (i := 2) dX12_brother_48 rfl rfl ?_
    refine s_iconst dX12_brother_49 kI_3 ?_
    refine s_iadd dX12_brother_50 ?_
    have hc := o_ck_c h
    have h := o_ck_k h
    refine s_ialdK g4 hc rfl dX12_brother_51 ?_
    refine s_callVi (C := mX12_lastLaw) (As := [.int (μ2.1 (o_rf X a0 0) r2.toNatClampNeg), .int (μ2.1 (o_rf X a0 0) ((r2 + 1)).toNatClampNeg), .int (μ2.1 (o_rf X a0 0) ((r2 + 2)).toNatClampNeg), .int (μ2.1 (o_rf X a0 0) ((r2 + 3)).toNatClampNeg)]) (rest := [.ref (o_ad X a0), .ref (o_ad X a0)]) (L0 := [some (.ref (o_ad X a0)), some (.int (μ2.1 (o_rf X a0 0) r2.toNatClampNeg)), some (.int (μ2.1 (o_rf X a0 0) ((r2 + 1)).toNatClampNeg)), some (.int (μ2.1 (o_rf X a0 0) ((r2 + 2)).toNatClampNeg)), some (.int (μ2.1 (o_rf X a0 0) ((r2 + 3)).toNatClampNeg)), none]) hX h0 clX12_426 dX12_brother_52 rfl rfl (Nat.le_of_ble_eq_true rfl) (Nat.le_of_ble_eq_true rfl) (dnX12_lastLaw hX h0 (o_bdp h)) (fun r3 μ3 h => ?_)
    refine s_callVi (C := mX12_strikeBy) (As := [.int r3]) (rest := [.ref (o_ad X a0)]) (L0 := [some (.ref (o_ad X a0)), some (.int r3)]) hX h0 clX12_322 dX12_brother_55 rfl rfl (Nat.le_of_ble_eq_true rfl) (Nat.le_of_ble_eq_true rfl) (dnX12_strikeBy hX h0 (o_bdp h)) (fun r4 μ4 h => ?_)
    refine s_callVi (C := mX12_orNone) (As := [.int r4]) (rest := []) (L0 := [some (.ref (o_ad X a0)), some (.int r4)]) hX h0 clX12_299 dX12_brother_58 rfl rfl (Nat.le_of_ble_eq_true rfl) (Nat.le_of_ble_eq_true rfl) (dnX12_orNone hX h0 (o_bdp h)) (fun r5 μ5 h => ?_)
    exact s_ireturn rfl dX12_brother_61 ⟨_, rfl, o_ret h⟩
  · have h := o_if_t c1 h
    refine s_aload_n (i := 0) dX12_brother_8 rfl rfl ?_
    refine s_iconst dX12_brother_9 kI_1 ?_
    refine s_callVi (C := mX12_refuse) (As := [.int 1]) (rest := []) (L0 := [some (.ref (o_ad X a0)), some (.int 1)]) hX h0 clX12_87 dX12_brother_10 rfl rfl (Nat.le_of_ble_eq_true rfl) (Nat.le_of_ble_eq_true rfl) (dnX12_refuse hX h0 (o_bdp h)) (fun r6 μ6 h => ?_)
    exact s_ireturn rfl dX12_brother_13 ⟨_, rfl, o_ret h⟩
theorem dX12_draw_0 : decode cX12_draw 0 = .ok (.aload_n 0, 1) := by decide +kernel
theorem dX12_draw_1 : decode cX12_draw 1 = .ok (.aload_n 0, 1) := by decide +kernel
theorem dX12_draw_2 : decode cX12_draw 2 = .ok (.getfield 449, 3) := by decide +kernel
theorem dX12_draw_5 : decode cX12_draw 5 = .ok (.sipush 3041, 3) := by decide +kernel
theorem dX12_draw_8 : decode cX12_draw 8 = .ok (.imul, 1) := by decide +kernel
theorem dX12_draw_9 : decode cX12_draw 9 = .ok (.sipush 11261, 3) := by decide +kernel
theorem dX12_draw_12 : decode cX12_draw 12 = .ok (.iadd, 1) := by decide +kernel
theorem dX12_draw_13 : decode cX12_draw 13 = .ok (.ldc_w 452, 3) := by decide +kernel
theorem dX12_draw_16 : decode cX12_draw 16 = .ok (.irem, 1) := by decide +kernel
theorem dX12_draw_17 : decode cX12_draw 17 = .ok (.putfield 449, 3) := by decide +kernel
theorem dX12_draw_20 : decode cX12_draw 20 = .ok (.aload_n 0, 1) := by decide +kernel
theorem dX12_draw_21 : decode cX12_draw 21 = .ok (.getfield 449, 3) := by decide +kernel
theorem dX12_draw_24 : decode cX12_draw 24 = .ok (.bipush 8, 2) := by decide +kernel
theorem dX12_draw_26 : decode cX12_draw 26 = .ok (.idiv, 1) := by decide +kernel
theorem dX12_draw_27 : decode cX12_draw 27 = .ok (.iload_n 1, 1) := by decide +kernel
theorem dX12_draw_28 : decode cX12_draw 28 = .ok (.irem, 1) := by decide +kernel
theorem dX12_draw_29 : decode cX12_draw 29 = .ok (.ireturn, 1) := by decide +kernel
noncomputable def fX12_draw (rf : Nat → Nat → Nat) (a0 : Nat) (x1 : Int32) (μ0 : o_Mem) : Option (Int32 × o_Mem) :=
  o_seq (o_wI μ0 a0 32 ((((μ0.1 a0 32) * 3041) + 11261) - (((μ0.1 a0 32) * 3041) + 11261) / 65536 * 65536)) fun μ1 =>
  o_ck (¬ x1 = 0) <|
  some ((((μ1.1 a0 32) / 8) - ((μ1.1 a0 32) / 8) / x1 * x1), μ1)
set_option maxRecDepth 20000 in
theorem dnX12_draw {X : o_Cx} (hX : o_ok X) {d : Nat} {a0 : Nat} {x1 : Int32} {μ0 : o_Mem} {q : Int32 → o_Mem → Prop} (h0 : o_is X a0 (.inl 12)) (h : o_Post (fX12_draw (o_rf X) a0 x1 μ0) q) : o_Ev X (d + 0) mX12_draw 0 [some (.ref (o_ad X a0)), some (.int x1)] [] μ0 (o_QI q) := by
  unfold fX12_draw at h
  refine s_aload_n (i := 0) dX12_draw_0 rfl rfl ?_
  refine s_aload_n (i := 0) dX12_draw_1 rfl rfl ?_
  refine s_getI h0 flX12_449 rfl dX12_draw_2 ?_
  refine s_sipush dX12_draw_5 kS_3041 ?_
  refine s_imul dX12_draw_8 ?_
  refine s_sipush dX12_draw_9 kS_11261 ?_
  refine s_iadd dX12_draw_12 ?_
  refine s_ldcw (v := 65536) w_9_134 dX12_draw_13 ?_
  refine s_irem dX12_draw_16 (by decide) ?_
  refine s_putI hX h0 fwX12_449 rfl dX12_draw_17 (o_gen h (fun μ1 h => ?_))
  refine s_aload_n (i := 0) dX12_draw_20 rfl rfl ?_
  refine s_getI h0 flX12_449 rfl dX12_draw_21 ?_
  refine s_bipush dX12_draw_24 kB_8 ?_
  refine s_idiv dX12_draw_26 (by decide) ?_
  refine s_iload_n (i := 1) dX12_draw_27 rfl rfl ?_
  refine s_irem dX12_draw_28 (o_ck_c h) ?_
  have h := o_ck_k h
  exact s_ireturn rfl dX12_draw_29 ⟨_, rfl, o_ret h⟩
theorem dX12_daysBy_0 : decode cX12_daysBy 0 = .ok (.aload_n 0, 1) := by decide +kernel
theorem dX12_daysBy_1 : decode cX12_daysBy 1 = .ok (.getfield 7, 3) := by decide +kernel
theorem dX12_daysBy_4 : decode cX12_daysBy 4 = .ok (.bipush 7, 2) := by decide +kernel
theorem dX12_daysBy_6 : decode cX12_daysBy 6 = .ok (.iaload, 1) := by decide +kernel
theorem dX12_daysBy_7 : decode cX12_daysBy 7 = .ok (.iload_n 1, 1) := by decide +kernel
theorem dX12_daysBy_8 : decode cX12_daysBy 8 = .ok (.iadd, 1) := by decide +kernel
theorem dX12_daysBy_9 : decode cX12_daysBy 9 = .ok (.sipush 9999, 3) := by decide +kernel
theorem dX12_daysBy_12 : decode cX12_daysBy 12 = .ok (.if_icmp .le 5, 3) := by decide +kernel
theorem dX12_daysBy_15 : decode cX12_daysBy 15 = .ok (.iconst 0, 1) := by decide +kernel
theorem dX12_daysBy_16 : decode cX12_daysBy 16 = .ok (.ireturn, 1) := by decide +kernel
theorem dX12_daysBy_17 : decode cX12_daysBy 17 = .ok (.aload_n 0, 1) := by decide +kernel
theorem dX12_daysBy_18 : decode cX12_daysBy 18 = .ok (.getfield 71, 3) := by decide +kernel
theorem dX12_daysBy_21 : decode cX12_daysBy 21 = .ok (.iconst 2, 1) := by decide +kernel
theorem dX12_daysBy_22 : decode cX12_daysBy 22 = .ok (.dup2, 1) := by decide +kernel
theorem dX12_daysBy_23 : decode cX12_daysBy 23 = .ok (.iaload, 1) := by decide +kernel
theorem dX12_daysBy_24 : decode cX12_daysBy 24 = .ok (.aload_n 0, 1) := by decide +kernel
theorem dX12_daysBy_25 : decode cX12_daysBy 25 = .ok (.iload_n 1, 1) := by decide +kernel
theorem dX12_daysBy_26 : decode cX12_daysBy 26 = .ok (.invokevirtual 352, 3) := by decide +kernel
theorem dX12_daysBy_29 : decode cX12_daysBy 29 = .ok (.iadd, 1) := by decide +kernel
theorem dX12_daysBy_30 : decode cX12_daysBy 30 = .ok (.iastore, 1) := by decide +kernel
theorem dX12_daysBy_31 : decode cX12_daysBy 31 = .ok (.aload_n 0, 1) := by decide +kernel
theorem dX12_daysBy_32 : decode cX12_daysBy 32 = .ok (.getfield 71, 3) := by decide +kernel
theorem dX12_daysBy_35 : decode cX12_daysBy 35 = .ok (.iconst 1, 1) := by decide +kernel
theorem dX12_daysBy_36 : decode cX12_daysBy 36 = .ok (.dup2, 1) := by decide +kernel
theorem dX12_daysBy_37 : decode cX12_daysBy 37 = .ok (.iaload, 1) := by decide +kernel
theorem dX12_daysBy_38 : decode cX12_daysBy 38 = .ok (.iload_n 1, 1) := by decide +kernel
theorem dX12_daysBy_39 : decode cX12_daysBy 39 = .ok (.iadd, 1) := by decide +kernel
theorem dX12_daysBy_40 : decode cX12_daysBy 40 = .ok (.iastore, 1) := by decide +kernel
theorem dX12_daysBy_41 : decode cX12_daysBy 41 = .ok (.iconst 1, 1) := by decide +kernel
theorem dX12_daysBy_42 : decode cX12_daysBy 42 = .ok (.ireturn, 1) := by decide +kernel
noncomputable def fX12_daysBy (rf : Nat → Nat → Nat) (a0 : Nat) (x1 : Int32) (μ0 : o_Mem) : Option (Int32 × o_Mem) :=
  if ((μ0.1 (rf a0 0) 7) + x1) ≤ 9999 then (
    o_bd (fX12_daysGo rf a0 x1 μ0) fun r1 μ1 =>
    o_seq (o_wI μ1 (rf a0 35) 2 ((μ0.1 (rf a0 35) 2) + r1)) fun μ2 =>
    o_seq (o_wI μ2 (rf a0 35) 1 ((μ2.1 (rf a0 35) 1) + x1)) fun μ3 =>
    some (1, μ3))
  else (
    some (0, μ0))
set_option maxRecDepth 20000 in
theorem dnX12_daysBy {X : o_Cx} (hX : o_ok X) {d : Nat} {a0 : Nat} {x1 : Int32} {μ0 : o_Mem} {q : Int32 → o_Mem → Prop} (h0 : o_is X a0 (.inl 12)) (h : o_Post (fX12_daysBy (o_rf X) a0 x1 μ0) q) : o_Ev X (d + 8) mX12_daysBy 0 [some (.ref (o_ad X a0)), some (.int x1)] [] μ0 (o_QZ q) := by
  unfold fX12_daysBy at h
  refine s_aload_n (i := 0) dX12_daysBy_0 rfl rfl ?_
  refine s_getR hX h0 flX12_7 rfl dX12_daysBy_1 (fun (g1 : o_is X (o_rf X a0 0) (.inr (0, 3756))) => ?_)
  refine s_bipush dX12_daysBy_4 kB_7 ?_
  refine s_ialdK g1 ⟨by decide, by decide⟩ kN_7 dX12_daysBy_6 ?_
  refine s_iload_n (i := 1) dX12_daysBy_7 rfl rfl ?_
  refine s_iadd dX12_daysBy_8 ?_
  refine s_sipush dX12_daysBy_9 kS_9999 ?_
  refine s_icmp_le (tgt := 17) dX12_daysBy_12 rfl (fun c1 => ?_) (fun c1 => ?_)
  · have h := o_if_t c1 h
    refine s_aload_n (i := 0) dX12_daysBy_17 rfl rfl ?_
    refine s_getR hX h0 flX12_71 rfl dX12_daysBy_18 (fun (g2 : o_is X (o_rf X a0 35) (.inr (0, 5))) => ?_)
    refine s_iconst dX12_daysBy_21 kI_2 ?_
    refine s_dup2 dX12_daysBy_22 rfl rfl ?_
    refine s_ialdK g2 ⟨by decide, by decide⟩ kN_2 dX12_daysBy_23 ?_
    refine s_aload_n (i := 0) dX12_daysBy_24 rfl rfl ?_
    refine s_iload_n (i := 1) dX12_daysBy_25 rfl rfl ?_
    refine s_callVi (C := mX12_daysGo) (As := [.int x1]) (rest := [.int (μ0.1 (o_rf X a0 35) 2), .int 2, .ref (o_ad X (o_rf X a0 35))]) (L0 := [some (.ref (o_ad X a0)), some (.int x1), none, none]) hX h0 clX12_352 dX12_daysBy_26 rfl rfl (Nat.le_of_ble_eq_true rfl) (Nat.le_of_ble_eq_true rfl) (dnX12_daysGo hX h0 (o_bdp h)) (fun r1 μ1 h => ?_)
    refine s_iadd dX12_daysBy_29 ?_
    refine s_iastK hX g2 ⟨by decide, by decide⟩ kN_2 dX12_daysBy_30 (o_gen h (fun μ2 h => ?_))
    refine s_aload_n (i := 0) dX12_daysBy_31 rfl rfl ?_
    refine s_getR hX h0 flX12_71 rfl dX12_daysBy_32 (fun (g3 : o_is X (o_rf X a0 35) (.inr (0, 5))) => ?_)
    refine s_iconst dX12_daysBy_35 kI_1 ?_
    refine s_dup2 dX12_daysBy_36 rfl rfl ?_
    refine s_ialdK g3 ⟨by decide, by decide⟩ kN_1 dX12_daysBy_37 ?_
    refine s_iload_n (i := 1) dX12_daysBy_38 rfl rfl ?_
    refine s_iadd dX12_daysBy_39 ?_
    refine s_iastK hX g3 ⟨by decide, by decide⟩ kN_1 dX12_daysBy_40 (o_gen h (fun μ3 h => ?_))
    refine s_iconst dX12_daysBy_41 kI_1 ?_
    exact s_zreturn rfl (Or.inr rfl) dX12_daysBy_42 ⟨_, rfl, (Or.inr rfl), o_ret h⟩
  · have h := o_if_f c1 h
    refine s_iconst dX12_daysBy_15 kI_0 ?_
    exact s_zreturn rfl (Or.inl rfl) dX12_daysBy_16 ⟨_, rfl, (Or.inl rfl), o_ret h⟩
theorem dX12_postsBy_0 : decode cX12_postsBy 0 = .ok (.aload_n 0, 1) := by decide +kernel
theorem dX12_postsBy_1 : decode cX12_postsBy 1 = .ok (.getfield 7, 3) := by decide +kernel
theorem dX12_postsBy_4 : decode cX12_postsBy 4 = .ok (.iconst 4, 1) := by decide +kernel
theorem dX12_postsBy_5 : decode cX12_postsBy 5 = .ok (.iaload, 1) := by decide +kernel
theorem dX12_postsBy_6 : decode cX12_postsBy 6 = .ok (.bipush 12, 2) := by decide +kernel
theorem dX12_postsBy_8 : decode cX12_postsBy 8 = .ok (.if_icmp .ne 5, 3) := by decide +kernel
theorem dX12_postsBy_11 : decode cX12_postsBy 11 = .ok (.iconst 0, 1) := by decide +kernel
theorem dX12_postsBy_12 : decode cX12_postsBy 12 = .ok (.ireturn, 1) := by decide +kernel
theorem dX12_postsBy_13 : decode cX12_postsBy 13 = .ok (.aload_n 0, 1) := by decide +kernel
theorem dX12_postsBy_14 : decode cX12_postsBy 14 = .ok (.iload_n 1, 1) := by decide +kernel
theorem dX12_postsBy_15 : decode cX12_postsBy 15 = .ok (.iload_n 2, 1) := by decide +kernel
theorem dX12_postsBy_16 : decode cX12_postsBy 16 = .ok (.iload_n 3, 1) := by decide +kernel
theorem dX12_postsBy_17 : decode cX12_postsBy 17 = .ok (.aload_n 0, 1) := by decide +kernel
theorem dX12_postsBy_18 : decode cX12_postsBy 18 = .ok (.iload_n 1, 1) := by decide +kernel
theorem dX12_postsBy_19 : decode cX12_postsBy 19 = .ok (.invokevirtual 290, 3) := by decide +kernel
theorem dX12_postsBy_22 : decode cX12_postsBy 22 = .ok (.invokevirtual 335, 3) := by decide +kernel
theorem dX12_postsBy_25 : decode cX12_postsBy 25 = .ok (.aload_n 0, 1) := by decide +kernel
theorem dX12_postsBy_26 : decode cX12_postsBy 26 = .ok (.getfield 71, 3) := by decide +kernel
theorem dX12_postsBy_29 : decode cX12_postsBy 29 = .ok (.iconst 3, 1) := by decide +kernel
theorem dX12_postsBy_30 : decode cX12_postsBy 30 = .ok (.dup2, 1) := by decide +kernel
theorem dX12_postsBy_31 : decode cX12_postsBy 31 = .ok (.iaload, 1) := by decide +kernel
theorem dX12_postsBy_32 : decode cX12_postsBy 32 = .ok (.iconst 1, 1) := by decide +kernel
theorem dX12_postsBy_33 : decode cX12_postsBy 33 = .ok (.iadd, 1) := by decide +kernel
theorem dX12_postsBy_34 : decode cX12_postsBy 34 = .ok (.iastore, 1) := by decide +kernel
theorem dX12_postsBy_35 : decode cX12_postsBy 35 = .ok (.iconst 1, 1) := by decide +kernel
theorem dX12_postsBy_36 : decode cX12_postsBy 36 = .ok (.ireturn, 1) := by decide +kernel
noncomputable def fX12_postsBy (rf : Nat → Nat → Nat) (a0 : Nat) (x1 : Int32) (x2 : Int32) (x3 : Int32) (μ0 : o_Mem) : Option (Int32 × o_Mem) :=
  if (μ0.1 (rf a0 0) 4) = 12 then (
    some (0, μ0))
  else (
    o_bd (fX12_handOf rf a0 x1 μ0) fun r1 μ1 =>
    o_bd (fX12_posts rf a0 x1 x2 x3 r1 μ1) fun _u μ2 =>
    o_seq (o_wI μ2 (rf a0 35) 3 ((μ2.1 (rf a0 35) 3) + 1)) fun μ3 =>
    some (1, μ3))
set_option maxRecDepth 20000 in
theorem dnX12_postsBy {X : o_Cx} (hX : o_ok X) {d : Nat} {a0 : Nat} {x1 : Int32} {x2 : Int32} {x3 : Int32} {μ0 : o_Mem} {q : Int32 → o_Mem → Prop} (h0 : o_is X a0 (.inl 12)) (h : o_Post (fX12_postsBy (o_rf X) a0 x1 x2 x3 μ0) q) : o_Ev X (d + 2) mX12_postsBy 0 [some (.ref (o_ad X a0)), some (.int x1), some (.int x2), some (.int x3)] [] μ0 (o_QZ q) := by
  unfold fX12_postsBy at h
  refine s_aload_n (i := 0) dX12_postsBy_0 rfl rfl ?_
  refine s_getR hX h0 flX12_7 rfl dX12_postsBy_1 (fun (g1 : o_is X (o_rf X a0 0) (.inr (0, 3756))) => ?_)
  refine s_iconst dX12_postsBy_4 kI_4 ?_
  refine s_ialdK g1 ⟨by decide, by decide⟩ kN_4 dX12_postsBy_5 ?_
  refine s_bipush dX12_postsBy_6 kB_12 ?_
  refine s_icmp_ne (tgt := 13) dX12_postsBy_8 rfl (fun c1 => ?_) (fun c1 => ?_)
  · have h := o_if_f c1 h
    refine s_aload_n (i := 0) dX12_postsBy_13 rfl rfl ?_
    refine s_iload_n (i := 1) dX12_postsBy_14 rfl rfl ?_
    refine s_iload_n (i := 2) dX12_postsBy_15 rfl rfl ?_
    refine s_iload_n (i := 3) dX12_postsBy_16 rfl rfl ?_
    refine s_aload_n (i := 0) dX12_postsBy_17 rfl rfl ?_
    refine s_iload_n (i := 1) dX12_postsBy_18 rfl rfl ?_
    refine s_callVi (C := mX12_handOf) (As := [.int x1]) (rest := [.int x3, .int x2, .int x1, .ref (o_ad X a0)]) (L0 := [some (.ref (o_ad X a0)), some (.int x1)]) hX h0 clX12_290 dX12_postsBy_19 rfl rfl (Nat.le_of_ble_eq_true rfl) (Nat.le_of_ble_eq_true rfl) (dnX12_handOf hX h0 (o_bdp h)) (fun r1 μ1 h => ?_)
    refine s_callVu (C := mX12_posts) (As := [.int x1, .int x2, .int x3, .int r1]) (rest := []) (L0 := [some (.ref (o_ad X a0)), some (.int x1), some (.int x2), some (.int x3), some (.int r1), none]) hX h0 clX12_335 dX12_postsBy_22 rfl rfl (Nat.le_of_ble_eq_true rfl) (Nat.le_of_ble_eq_true rfl) (dnX12_posts hX h0 (o_bdp h)) (fun _u μ2 h => ?_)
    refine s_aload_n (i := 0) dX12_postsBy_25 rfl rfl ?_
    refine s_getR hX h0 flX12_71 rfl dX12_postsBy_26 (fun (g2 : o_is X (o_rf X a0 35) (.inr (0, 5))) => ?_)
    refine s_iconst dX12_postsBy_29 kI_3 ?_
    refine s_dup2 dX12_postsBy_30 rfl rfl ?_
    refine s_ialdK g2 ⟨by decide, by decide⟩ kN_3 dX12_postsBy_31 ?_
    refine s_iconst dX12_postsBy_32 kI_1 ?_
    refine s_iadd dX12_postsBy_33 ?_
    refine s_iastK hX g2 ⟨by decide, by decide⟩ kN_3 dX12_postsBy_34 (o_gen h (fun μ3 h => ?_))
    refine s_iconst dX12_postsBy_35 kI_1 ?_
    exact s_zreturn rfl (Or.inr rfl) dX12_postsBy_36 ⟨_, rfl, (Or.inr rfl), o_ret h⟩
  · have h := o_if_t c1 h
    refine s_iconst dX12_postsBy_11 kI_0 ?_
    exact s_zreturn rfl (Or.inl rfl) dX12_postsBy_12 ⟨_, rfl, (Or.inl rfl), o_ret h⟩
theorem dX12_isNowDrunk_0 : decode cX12_isNowDrunk 0 = .ok (.aload_n 0, 1) := by decide +kernel
theorem dX12_isNowDrunk_1 : decode cX12_isNowDrunk 1 = .ok (.getfield 7, 3) := by decide +kernel
theorem dX12_isNowDrunk_4 : decode cX12_isNowDrunk 4 = .ok (.bipush 8, 2) := by decide +kernel
theorem dX12_isNowDrunk_6 : decode cX12_isNowDrunk 6 = .ok (.iaload, 1) := by decide +kernel
theorem dX12_isNowDrunk_7 : decode cX12_isNowDrunk 7 = .ok (.iload_n 1, 1) := by decide +kernel
theorem dX12_isNowDrunk_8 : decode cX12_isNowDrunk 8 = .ok (.if_icmp .eq 7, 3) := by decide +kernel
theorem dX12_isNowDrunk_11 : decode cX12_isNowDrunk 11 = .ok (.iconst 1, 1) := by decide +kernel
theorem dX12_isNowDrunk_12 : decode cX12_isNowDrunk 12 = .ok (.goto 4, 3) := by decide +kernel
theorem dX12_isNowDrunk_15 : decode cX12_isNowDrunk 15 = .ok (.iconst 0, 1) := by decide +kernel
theorem dX12_isNowDrunk_16 : decode cX12_isNowDrunk 16 = .ok (.istore_n 2, 1) := by decide +kernel
theorem dX12_isNowDrunk_17 : decode cX12_isNowDrunk 17 = .ok (.aload_n 0, 1) := by decide +kernel
theorem dX12_isNowDrunk_18 : decode cX12_isNowDrunk 18 = .ok (.getfield 7, 3) := by decide +kernel
theorem dX12_isNowDrunk_21 : decode cX12_isNowDrunk 21 = .ok (.bipush 8, 2) := by decide +kernel
theorem dX12_isNowDrunk_23 : decode cX12_isNowDrunk 23 = .ok (.iload_n 1, 1) := by decide +kernel
theorem dX12_isNowDrunk_24 : decode cX12_isNowDrunk 24 = .ok (.iastore, 1) := by decide +kernel
theorem dX12_isNowDrunk_25 : decode cX12_isNowDrunk 25 = .ok (.iload_n 2, 1) := by decide +kernel
theorem dX12_isNowDrunk_26 : decode cX12_isNowDrunk 26 = .ok (.ireturn, 1) := by decide +kernel
noncomputable def fX12_isNowDrunk_j16 (rf : Nat → Nat → Nat) (a0 : Nat) (x1 : Int32) (y0 : Int32) (μ0 : o_Mem) : Option (Int32 × o_Mem) :=
  o_seq (o_wI μ0 (rf a0 0) 8 x1) fun μ1 =>
  o_ck (y0 = 0 ∨ y0 = 1) <|
  some (y0, μ1)
noncomputable def fX12_isNowDrunk (rf : Nat → Nat → Nat) (a0 : Nat) (x1 : Int32) (μ0 : o_Mem) : Option (Int32 × o_Mem) :=
  if (μ0.1 (rf a0 0) 8) = x1 then (
    fX12_isNowDrunk_j16 rf a0 x1 0 μ0)
  else (
    fX12_isNowDrunk_j16 rf a0 x1 1 μ0)
set_option maxRecDepth 20000 in
theorem dnX12_isNowDrunk_j16 {X : o_Cx} (hX : o_ok X) {d : Nat} {a0 : Nat} {x1 : Int32} {y0 : Int32} {μ0 : o_Mem} {q : Int32 → o_Mem → Prop} (h0 : o_is X a0 (.inl 12)) (h : o_Post (fX12_isNowDrunk_j16 (o_rf X) a0 x1 y0 μ0) q) : o_Ev X (d + 0) mX12_isNowDrunk 16 [some (.ref (o_ad X a0)), some (.int x1), none] [.int y0] μ0 (o_QZ q) := by
  unfold fX12_isNowDrunk_j16 at h
  refine s_istore_n (i := 2) dX12_isNowDrunk_16 rfl (Nat.le_of_ble_eq_true rfl) rfl ?_
  refine s_aload_n (i := 0) dX12_isNowDrunk_17 rfl rfl ?_
  refine s_getR hX h0 flX12_7 rfl dX12_isNowDrunk_18 (fun (g1 : o_is X (o_rf X a0 0) (.inr (0, 3756))) => ?_)
  refine s_bipush dX12_isNowDrunk_21 kB_8 ?_
  refine s_iload_n (i := 1) dX12_isNowDrunk_23 rfl rfl ?_
  refine s_iastK hX g1 ⟨by decide, by decide⟩ kN_8 dX12_isNowDrunk_24 (o_gen h (fun μ1 h => ?_))
  refine s_iload_n (i := 2) dX12_isNowDrunk_25 rfl rfl ?_
  exact s_zreturn rfl (o_ck_c h) dX12_isNowDrunk_26 ⟨_, rfl, o_ck_c h, o_ret (o_ck_k h)⟩
set_option maxRecDepth 20000 in
theorem dnX12_isNowDrunk {X : o_Cx} (hX : o_ok X) {d : Nat} {a0 : Nat} {x1 : Int32} {μ0 : o_Mem} {q : Int32 → o_Mem → Prop} (h0 : o_is X a0 (.inl 12)) (h : o_Post (fX12_isNowDrunk (o_rf X) a0 x1 μ0) q) : o_Ev X (d + 0) mX12_isNowDrunk 0 [some (.ref (o_ad X a0)), some (.int x1), none] [] μ0 (o_QZ q) := by
  unfold fX12_isNowDrunk at h
  refine s_aload_n (i := 0) dX12_isNowDrunk_0 rfl rfl ?_
  refine s_getR hX h0 flX12_7 rfl dX12_isNowDrunk_1 (fun (g1 : o_is X (o_rf X a0 0) (.inr (0, 3756))) => ?_)
  refine s_bipush dX12_isNowDrunk_4 kB_8 ?_
  refine s_ialdK g1 ⟨by decide, by decide⟩ kN_8 dX12_isNowDrunk_6 ?_
  refine s_iload_n (i := 1) dX12_isNowDrunk_7 rfl rfl ?_
  refine s_icmp_eq (tgt := 15) dX12_isNowDrunk_8 rfl (fun c1 => ?_) (fun c1 => ?_)
  · have h := o_if_t c1 h
    refine s_iconst dX12_isNowDrunk_15 kI_0 ?_
    refine s_mask [true, true, false] (L' := [some (.ref (o_ad X a0)), some (.int x1), none]) rfl ?_
    exact dnX12_isNowDrunk_j16 hX h0 h
  · have h := o_if_f c1 h
    refine s_iconst dX12_isNowDrunk_11 kI_1 ?_
    refine s_goto (tgt := 16) dX12_isNowDrunk_12 rfl ?_
    refine s_mask [true, true, false] (L' := [some (.ref (o_ad X a0)), some (.int x1), none]) rfl ?_
    exact dnX12_isNowDrunk_j16 hX h0 h
theorem dX12_does_0 : decode cX12_does 0 = .ok (.aload_n 0, 1) := by decide +kernel
theorem dX12_does_1 : decode cX12_does 1 = .ok (.getfield 7, 3) := by decide +kernel
theorem dX12_does_4 : decode cX12_does 4 = .ok (.iload_n 1, 1) := by decide +kernel
theorem dX12_does_5 : decode cX12_does 5 = .ok (.iaload, 1) := by decide +kernel
theorem dX12_does_6 : decode cX12_does 6 = .ok (.tableswitch 118 15 19 #[34, 47, 76, 82, 88], 34) := by decide +kernel
theorem dX12_does_40 : decode cX12_does 40 = .ok (.aload_n 0, 1) := by decide +kernel
theorem dX12_does_41 : decode cX12_does 41 = .ok (.aload_n 0, 1) := by decide +kernel
theorem dX12_does_42 : decode cX12_does 42 = .ok (.getfield 7, 3) := by decide +kernel
theorem dX12_does_45 : decode cX12_does 45 = .ok (.iload_n 1, 1) := by decide +kernel
theorem dX12_does_46 : decode cX12_does 46 = .ok (.iconst 1, 1) := by decide +kernel
theorem dX12_does_47 : decode cX12_does 47 = .ok (.iadd, 1) := by decide +kernel
theorem dX12_does_48 : decode cX12_does 48 = .ok (.iaload, 1) := by decide +kernel
theorem dX12_does_49 : decode cX12_does 49 = .ok (.invokevirtual 453, 3) := by decide +kernel
theorem dX12_does_52 : decode cX12_does 52 = .ok (.ireturn, 1) := by decide +kernel
theorem dX12_does_53 : decode cX12_does 53 = .ok (.aload_n 0, 1) := by decide +kernel
theorem dX12_does_54 : decode cX12_does 54 = .ok (.aload_n 0, 1) := by decide +kernel
theorem dX12_does_55 : decode cX12_does 55 = .ok (.getfield 7, 3) := by decide +kernel
theorem dX12_does_58 : decode cX12_does 58 = .ok (.iload_n 1, 1) := by decide +kernel
theorem dX12_does_59 : decode cX12_does 59 = .ok (.iconst 1, 1) := by decide +kernel
theorem dX12_does_60 : decode cX12_does 60 = .ok (.iadd, 1) := by decide +kernel
theorem dX12_does_61 : decode cX12_does 61 = .ok (.iaload, 1) := by decide +kernel
theorem dX12_does_62 : decode cX12_does 62 = .ok (.aload_n 0, 1) := by decide +kernel
theorem dX12_does_63 : decode cX12_does 63 = .ok (.getfield 7, 3) := by decide +kernel
theorem dX12_does_66 : decode cX12_does 66 = .ok (.iload_n 1, 1) := by decide +kernel
theorem dX12_does_67 : decode cX12_does 67 = .ok (.iconst 2, 1) := by decide +kernel
theorem dX12_does_68 : decode cX12_does 68 = .ok (.iadd, 1) := by decide +kernel
theorem dX12_does_69 : decode cX12_does 69 = .ok (.iaload, 1) := by decide +kernel
theorem dX12_does_70 : decode cX12_does 70 = .ok (.aload_n 0, 1) := by decide +kernel
theorem dX12_does_71 : decode cX12_does 71 = .ok (.getfield 7, 3) := by decide +kernel
theorem dX12_does_74 : decode cX12_does 74 = .ok (.iload_n 1, 1) := by decide +kernel
theorem dX12_does_75 : decode cX12_does 75 = .ok (.iconst 3, 1) := by decide +kernel
theorem dX12_does_76 : decode cX12_does 76 = .ok (.iadd, 1) := by decide +kernel
theorem dX12_does_77 : decode cX12_does 77 = .ok (.iaload, 1) := by decide +kernel
theorem dX12_does_78 : decode cX12_does 78 = .ok (.invokevirtual 456, 3) := by decide +kernel
theorem dX12_does_81 : decode cX12_does 81 = .ok (.ireturn, 1) := by decide +kernel
theorem dX12_does_82 : decode cX12_does 82 = .ok (.aload_n 0, 1) := by decide +kernel
theorem dX12_does_83 : decode cX12_does 83 = .ok (.iconst 1, 1) := by decide +kernel
theorem dX12_does_84 : decode cX12_does 84 = .ok (.invokevirtual 459, 3) := by decide +kernel
theorem dX12_does_87 : decode cX12_does 87 = .ok (.ireturn, 1) := by decide +kernel
theorem dX12_does_88 : decode cX12_does 88 = .ok (.aload_n 0, 1) := by decide +kernel
theorem dX12_does_89 : decode cX12_does 89 = .ok (.iconst 0, 1) := by decide +kernel
theorem dX12_does_90 : decode cX12_does 90 = .ok (.invokevirtual 459, 3) := by decide +kernel
theorem dX12_does_93 : decode cX12_does 93 = .ok (.ireturn, 1) := by decide +kernel
theorem dX12_does_94 : decode cX12_does 94 = .ok (.aload_n 0, 1) := by decide +kernel
theorem dX12_does_95 : decode cX12_does 95 = .ok (.getfield 7, 3) := by decide +kernel
theorem dX12_does_98 : decode cX12_does 98 = .ok (.bipush 8, 2) := by decide +kernel
theorem dX12_does_100 : decode cX12_does 100 = .ok (.aload_n 0, 1) := by decide +kernel
theorem dX12_does_101 : decode cX12_does 101 = .ok (.bipush 16, 2) := by decide +kernel
theorem dX12_does_103 : decode cX12_does 103 = .ok (.invokevirtual 462, 3) := by decide +kernel
theorem dX12_does_106 : decode cX12_does 106 = .ok (.aload_n 0, 1) := by decide +kernel
theorem dX12_does_107 : decode cX12_does 107 = .ok (.getfield 7, 3) := by decide +kernel
theorem dX12_does_110 : decode cX12_does 110 = .ok (.bipush 6, 2) := by decide +kernel
theorem dX12_does_112 : decode cX12_does 112 = .ok (.iaload, 1) := by decide +kernel
theorem dX12_does_113 : decode cX12_does 113 = .ok (.if_icmp .ge 7, 3) := by decide +kernel
theorem dX12_does_116 : decode cX12_does 116 = .ok (.iconst 1, 1) := by decide +kernel
theorem dX12_does_117 : decode cX12_does 117 = .ok (.goto 4, 3) := by decide +kernel
theorem dX12_does_120 : decode cX12_does 120 = .ok (.iconst 0, 1) := by decide +kernel
theorem dX12_does_121 : decode cX12_does 121 = .ok (.iastore, 1) := by decide +kernel
theorem dX12_does_122 : decode cX12_does 122 = .ok (.iconst 1, 1) := by decide +kernel
theorem dX12_does_123 : decode cX12_does 123 = .ok (.ireturn, 1) := by decide +kernel
theorem dX12_does_124 : decode cX12_does 124 = .ok (.iconst 1, 1) := by decide +kernel
theorem dX12_does_125 : decode cX12_does 125 = .ok (.ireturn, 1) := by decide +kernel
noncomputable def fX12_does_j121 (rf : Nat → Nat → Nat) (b0 : Nat) (y1 : Int32) (y2 : Int32) (μ0 : o_Mem) : Option (Int32 × o_Mem) :=
  o_ck (0 ≤ (y1).toInt ∧ (y1).toInt < 3756) <|
  o_seq (o_wI μ0 b0 y1.toNatClampNeg y2) fun μ1 =>
  some (1, μ1)
noncomputable def fX12_does (rf : Nat → Nat → Nat) (a0 : Nat) (x1 : Int32) (μ0 : o_Mem) : Option (Int32 × o_Mem) :=
  o_ck (0 ≤ (x1).toInt ∧ (x1).toInt < 3756) <|
  if (μ0.1 (rf a0 0) x1.toNatClampNeg) = 15 then (
    o_ck (0 ≤ ((x1 + 1)).toInt ∧ ((x1 + 1)).toInt < 3756) <|
    o_bd (fX12_daysBy rf a0 (μ0.1 (rf a0 0) ((x1 + 1)).toNatClampNeg) μ0) fun r1 μ1 =>
    some (r1, μ1))
  else
  if (μ0.1 (rf a0 0) x1.toNatClampNeg) = 16 then (
    o_ck (0 ≤ ((x1 + 1)).toInt ∧ ((x1 + 1)).toInt < 3756) <|
    o_ck (0 ≤ ((x1 + 2)).toInt ∧ ((x1 + 2)).toInt < 3756) <|
    o_ck (0 ≤ ((x1 + 3)).toInt ∧ ((x1 + 3)).toInt < 3756) <|
    o_bd (fX12_postsBy rf a0 (μ0.1 (rf a0 0) ((x1 + 1)).toNatClampNeg) (μ0.1 (rf a0 0) ((x1 + 2)).toNatClampNeg) (μ0.1 (rf a0 0) ((x1 + 3)).toNatClampNeg) μ0) fun r2 μ2 =>
    some (r2, μ2))
  else
  if (μ0.1 (rf a0 0) x1.toNatClampNeg) = 17 then (
    o_bd (fX12_isNowDrunk rf a0 1 μ0) fun r3 μ3 =>
    some (r3, μ3))
  else
  if (μ0.1 (rf a0 0) x1.toNatClampNeg) = 18 then (
    o_bd (fX12_isNowDrunk rf a0 0 μ0) fun r4 μ4 =>
    some (r4, μ4))
  else
  if (μ0.1 (rf a0 0) x1.toNatClampNeg) = 19 then (
    o_bd (fX12_draw rf a0 16 μ0) fun r5 μ5 =>
    if (μ5.1 (rf a0 0) 6) ≤ r5 then (
      fX12_does_j121 rf (rf a0 0) 8 0 μ5)
    else (
      fX12_does_j121 rf (rf a0 0) 8 1 μ5))
  else
    some (1, μ0)
set_option maxRecDepth 20000 in
theorem dnX12_does_j121 {X : o_Cx} (hX : o_ok X) {d : Nat} {b0 : Nat} {y1 : Int32} {y2 : Int32} {μ0 : o_Mem} {q : Int32 → o_Mem → Prop} (hb0 : o_is X b0 (.inr (0, 3756))) (h : o_Post (fX12_does_j121 (o_rf X) b0 y1 y2 μ0) q) : o_Ev X (d + 9) mX12_does 121 [none, none] [.int y2, .int y1, .ref (o_ad X b0)] μ0 (o_QZ q) := by
  unfold fX12_does_j121 at h
  have hc := o_ck_c h
  have h := o_ck_k h
  refine s_iastK hX hb0 hc rfl dX12_does_121 (o_gen h (fun μ1 h => ?_))
  refine s_iconst dX12_does_122 kI_1 ?_
  exact s_zreturn rfl (Or.inr rfl) dX12_does_123 ⟨_, rfl, (Or.inr rfl), o_ret h⟩
set_option maxRecDepth 20000 in
theorem dnX12_does {X : o_Cx} (hX : o_ok X) {d : Nat} {a0 : Nat} {x1 : Int32} {μ0 : o_Mem} {q : Int32 → o_Mem → Prop} (h0 : o_is X a0 (.inl 12)) (h : o_Post (fX12_does (o_rf X) a0 x1 μ0) q) : o_Ev X (d + 9) mX12_does 0 [some (.ref (o_ad X a0)), some (.int x1)] [] μ0 (o_QZ q) := by
  unfold fX12_does at h
  refine s_aload_n (i := 0) dX12_does_0 rfl rfl ?_
  refine s_getR hX h0 flX12_7 rfl dX12_does_1 (fun (g1 : o_is X (o_rf X a0 0) (.inr (0, 3756))) => ?_)
  refine s_iload_n (i := 1) dX12_does_4 rfl rfl ?_
  have hc := o_ck_c h
  have h := o_ck_k h
  refine s_ialdK g1 hc rfl dX12_does_5 ?_
  by_cases e15 : (μ0.1 (o_rf X a0 0) x1.toNatClampNeg) = 15
  · have h := o_if_t e15 h
    refine s_table (off := 34) (tgt := 40) dX12_does_6 rfl (by rw [e15]; decide) rfl ?_
    refine s_aload_n (i := 0) dX12_does_40 rfl rfl ?_
    refine s_aload_n (i := 0) dX12_does_41 rfl rfl ?_
    refine s_getR hX h0 flX12_7 rfl dX12_does_42 (fun (g2 : o_is X (o_rf X a0 0) (.inr (0, 3756))) => ?_)
    refine s_iload_n (i := 1) dX12_does_45 rfl rfl ?_
    refine s_iconst dX12_does_46 kI_1 ?_
    refine s_iadd dX12_does_47 ?_
    have hc := o_ck_c h
    have h := o_ck_k h
    refine s_ialdK g2 hc rfl dX12_does_48 ?_
    refine s_callVz (C := mX12_daysBy) (As := [.int (μ0.1 (o_rf X a0 0) ((x1 + 1)).toNatClampNeg)]) (rest := []) (L0 := [some (.ref (o_ad X a0)), some (.int (μ0.1 (o_rf X a0 0) ((x1 + 1)).toNatClampNeg))]) hX h0 clX12_453 dX12_does_49 rfl rfl (Nat.le_of_ble_eq_true rfl) (Nat.le_of_ble_eq_true rfl) (dnX12_daysBy hX h0 (o_bdp h)) (fun r1 μ1 zr1 h => ?_)
    exact s_zreturn rfl zr1 dX12_does_52 ⟨_, rfl, zr1, o_ret h⟩
  have h := o_if_f e15 h
  by_cases e16 : (μ0.1 (o_rf X a0 0) x1.toNatClampNeg) = 16
  · have h := o_if_t e16 h
    refine s_table (off := 47) (tgt := 53) dX12_does_6 rfl (by rw [e16]; decide) rfl ?_
    refine s_aload_n (i := 0) dX12_does_53 rfl rfl ?_
    refine s_aload_n (i := 0) dX12_does_54 rfl rfl ?_
    refine s_getR hX h0 flX12_7 rfl dX12_does_55 (fun (g3 : o_is X (o_rf X a0 0) (.inr (0, 3756))) => ?_)
    refine s_iload_n (i := 1) dX12_does_58 rfl rfl ?_
    refine s_iconst dX12_does_59 kI_1 ?_
    refine s_iadd dX12_does_60 ?_
    have hc := o_ck_c h
    have h := o_ck_k h
    refine s_ialdK g3 hc rfl dX12_does_61 ?_
    refine s_aload_n (i := 0) dX12_does_62 rfl rfl ?_
    refine s_getR hX h0 flX12_7 rfl dX12_does_63 (fun (g4 : o_is X (o_rf X a0 0) (.inr (0, 3756))) => ?_)
    refine s_iload_n (i := 1) dX12_does_66 rfl rfl ?_
    refine s_iconst dX12_does_67 kI_2 ?_
    refine s_iadd dX12_does_68 ?_
    have hc := o_ck_c h
    have h := o_ck_k h
    refine s_ialdK g4 hc rfl dX12_does_69 ?_
    refine s_aload_n (i := 0) dX12_does_70 rfl rfl ?_
    refine s_getR hX h0 flX12_7 rfl dX12_does_71 (fun (g5 : o_is X (o_rf X a0 0) (.inr (0, 3756))) => ?_)
    refine s_iload_n (i := 1) dX12_does_74 rfl rfl ?_
    refine s_iconst dX12_does_75 kI_3 ?_
    refine s_iadd dX12_does_76 ?_
    have hc := o_ck_c h
    have h := o_ck_k h
    refine s_ialdK g5 hc rfl dX12_does_77 ?_
    refine s_callVz (C := mX12_postsBy) (As := [.int (μ0.1 (o_rf X a0 0) ((x1 + 1)).toNatClampNeg), .int (μ0.1 (o_rf X a0 0) ((x1 + 2)).toNatClampNeg), .int (μ0.1 (o_rf X a0 0) ((x1 + 3)).toNatClampNeg)]) (rest := []) (L0 := [some (.ref (o_ad X a0)), some (.int (μ0.1 (o_rf X a0 0) ((x1 + 1)).toNatClampNeg)), some (.int (μ0.1 (o_rf X a0 0) ((x1 + 2)).toNatClampNeg)), some (.int (μ0.1 (o_rf X a0 0) ((x1 + 3)).toNatClampNeg))]) hX h0 clX12_456 dX12_does_78 rfl rfl (Nat.le_of_ble_eq_true rfl) (Nat.le_of_ble_eq_true rfl) (dnX12_postsBy hX h0 (o_bdp h)) (fun r2 μ2 zr2 h => ?_)
    exact s_zreturn rfl zr2 dX12_does_81 ⟨_, rfl, zr2, o_ret h⟩
  have h := o_if_f e16 h
  by_cases e17 : (μ0.1 (o_rf X a0 0) x1.toNatClampNeg) = 17
  · have h := o_if_t e17 h
    refine s_table (off := 76) (tgt := 82) dX12_does_6 rfl (by rw [e17]; decide) rfl ?_
    refine s_aload_n (i := 0) dX12_does_82 rfl rfl ?_
    refine s_iconst dX12_does_83 kI_1 ?_
    refine s_callVz (C := mX12_isNowDrunk) (As := [.int 1]) (rest := []) (L0 := [some (.ref (o_ad X a0)), some (.int 1), none]) hX h0 clX12_459 dX12_does_84 rfl rfl (Nat.le_of_ble_eq_true rfl) (Nat.le_of_ble_eq_true rfl) (dnX12_isNowDrunk hX h0 (o_bdp h)) (fun r3 μ3 zr3 h => ?_)
    exact s_zreturn rfl zr3 dX12_does_87 ⟨_, rfl, zr3, o_ret h⟩
  have h := o_if_f e17 h
  by_cases e18 : (μ0.1 (o_rf X a0 0) x1.toNatClampNeg) = 18
  · have h := o_if_t e18 h
    refine s_table (off := 82) (tgt := 88) dX12_does_6 rfl (by rw [e18]; decide) rfl ?_
    refine s_aload_n (i := 0) dX12_does_88 rfl rfl ?_
    refine s_iconst dX12_does_89 kI_0 ?_
    refine s_callVz (C := mX12_isNowDrunk) (As := [.int 0]) (rest := []) (L0 := [some (.ref (o_ad X a0)), some (.int 0), none]) hX h0 clX12_459 dX12_does_90 rfl rfl (Nat.le_of_ble_eq_true rfl) (Nat.le_of_ble_eq_true rfl) (dnX12_isNowDrunk hX h0 (o_bdp h)) (fun r4 μ4 zr4 h => ?_)
    exact s_zreturn rfl zr4 dX12_does_93 ⟨_, rfl, zr4, o_ret h⟩
  have h := o_if_f e18 h
  by_cases e19 : (μ0.1 (o_rf X a0 0) x1.toNatClampNeg) = 19
  · have h := o_if_t e19 h
    refine s_table (off := 88) (tgt := 94) dX12_does_6 rfl (by rw [e19]; decide) rfl ?_
    refine s_aload_n (i := 0) dX12_does_94 rfl rfl ?_
    refine s_getR hX h0 flX12_7 rfl dX12_does_95 (fun (g6 : o_is X (o_rf X a0 0) (.inr (0, 3756))) => ?_)
    refine s_bipush dX12_does_98 kB_8 ?_
    refine s_aload_n (i := 0) dX12_does_100 rfl rfl ?_
    refine s_bipush dX12_does_101 kB_16 ?_
    refine s_callVi (C := mX12_draw) (As := [.int 16]) (rest := [.int 8, .ref (o_ad X (o_rf X a0 0))]) (L0 := [some (.ref (o_ad X a0)), some (.int 16)]) hX h0 clX12_462 dX12_does_103 rfl rfl (Nat.le_of_ble_eq_true rfl) (Nat.le_of_ble_eq_true rfl) (dnX12_draw hX h0 (o_bdp h)) (fun r5 μ5 h => ?_)
    refine s_aload_n (i := 0) dX12_does_106 rfl rfl ?_
    refine s_getR hX h0 flX12_7 rfl dX12_does_107 (fun (g7 : o_is X (o_rf X a0 0) (.inr (0, 3756))) => ?_)
    refine s_bipush dX12_does_110 kB_6 ?_
    refine s_ialdK g7 ⟨by decide, by decide⟩ kN_6 dX12_does_112 ?_
    refine s_icmp_ge (tgt := 120) dX12_does_113 rfl (fun c1 => ?_) (fun c1 => ?_)
    · have h := o_if_t c1 h
      refine s_iconst dX12_does_120 kI_0 ?_
      refine s_mask [false, false] (L' := [none, none]) rfl ?_
      exact dnX12_does_j121 hX g6 h
    · have h := o_if_f c1 h
      refine s_iconst dX12_does_116 kI_1 ?_
      refine s_goto (tgt := 121) dX12_does_117 rfl ?_
      refine s_mask [false, false] (L' := [none, none]) rfl ?_
      exact dnX12_does_j121 hX g6 h
  have h := o_if_f e19 h
  have n15 := lv_neT (a := 15) e15 (by decide)
  have n16 := lv_neT (a := 16) e16 (by decide)
  have n17 := lv_neT (a := 17) e17 (by decide)
  have n18 := lv_neT (a := 18) e18 (by decide)
  have n19 := lv_neT (a := 19) e19 (by decide)
  have hz : ((μ0.1 (o_rf X a0 0) x1.toNatClampNeg)).toInt < 15 ∨ 19 < ((μ0.1 (o_rf X a0 0) x1.toNatClampNeg)).toInt := by omega
  refine s_table (off := 118) (tgt := 124) dX12_does_6 rfl (o_tabD hz) rfl ?_
  refine s_iconst dX12_does_124 kI_1 ?_
  exact s_zreturn rfl (Or.inr rfl) dX12_does_125 ⟨_, rfl, (Or.inr rfl), o_ret h⟩
theorem dX12_hasCover_0 : decode cX12_hasCover 0 = .ok (.iconst 0, 1) := by decide +kernel
theorem dX12_hasCover_1 : decode cX12_hasCover 1 = .ok (.istore_n 2, 1) := by decide +kernel
theorem dX12_hasCover_2 : decode cX12_hasCover 2 = .ok (.iload_n 2, 1) := by decide +kernel
theorem dX12_hasCover_3 : decode cX12_hasCover 3 = .ok (.aload_n 0, 1) := by decide +kernel
theorem dX12_hasCover_4 : decode cX12_hasCover 4 = .ok (.getfield 7, 3) := by decide +kernel
theorem dX12_hasCover_7 : decode cX12_hasCover 7 = .ok (.iconst 5, 1) := by decide +kernel
theorem dX12_hasCover_8 : decode cX12_hasCover 8 = .ok (.iaload, 1) := by decide +kernel
theorem dX12_hasCover_9 : decode cX12_hasCover 9 = .ok (.if_icmp .ge 26, 3) := by decide +kernel
theorem dX12_hasCover_12 : decode cX12_hasCover 12 = .ok (.aload_n 0, 1) := by decide +kernel
theorem dX12_hasCover_13 : decode cX12_hasCover 13 = .ok (.getfield 7, 3) := by decide +kernel
theorem dX12_hasCover_16 : decode cX12_hasCover 16 = .ok (.iload_n 2, 1) := by decide +kernel
theorem dX12_hasCover_17 : decode cX12_hasCover 17 = .ok (.invokestatic 311, 3) := by decide +kernel
theorem dX12_hasCover_20 : decode cX12_hasCover 20 = .ok (.iconst 4, 1) := by decide +kernel
theorem dX12_hasCover_21 : decode cX12_hasCover 21 = .ok (.iadd, 1) := by decide +kernel
theorem dX12_hasCover_22 : decode cX12_hasCover 22 = .ok (.iaload, 1) := by decide +kernel
theorem dX12_hasCover_23 : decode cX12_hasCover 23 = .ok (.iload_n 1, 1) := by decide +kernel
theorem dX12_hasCover_24 : decode cX12_hasCover 24 = .ok (.if_icmp .ne 5, 3) := by decide +kernel
theorem dX12_hasCover_27 : decode cX12_hasCover 27 = .ok (.iconst 1, 1) := by decide +kernel
theorem dX12_hasCover_28 : decode cX12_hasCover 28 = .ok (.ireturn, 1) := by decide +kernel
theorem dX12_hasCover_29 : decode cX12_hasCover 29 = .ok (.iinc 2 1, 3) := by decide +kernel
theorem dX12_hasCover_32 : decode cX12_hasCover 32 = .ok (.goto (-30), 3) := by decide +kernel
theorem dX12_hasCover_35 : decode cX12_hasCover 35 = .ok (.iconst 0, 1) := by decide +kernel
theorem dX12_hasCover_36 : decode cX12_hasCover 36 = .ok (.ireturn, 1) := by decide +kernel
noncomputable def fX12_hasCover_s2 (rf : Nat → Nat → Nat) (a0 : Nat) (x1 : Int32) (τ2 : Int32) (μ0 : o_Mem) : Option ((Nat × (Int32)) × o_Mem) :=
  if (μ0.1 (rf a0 0) 5) ≤ τ2 then (
    some ((35, 0), μ0))
  else (
    o_bd (fX12_coverRow rf τ2 μ0) fun r1 μ1 =>
    o_ck (0 ≤ ((r1 + 4)).toInt ∧ ((r1 + 4)).toInt < 3756) <|
    if (μ1.1 (rf a0 0) ((r1 + 4)).toNatClampNeg) = x1 then (
      some ((27, 0), μ1))
    else (
      some ((2, (τ2 + 1)), μ1)))
noncomputable def fX12_hasCover (rf : Nat → Nat → Nat) (a0 : Nat) (x1 : Int32) (μ0 : o_Mem) : Option (Int32 × o_Mem) :=
  o_bd (o_lp 2 (fX12_hasCover_s2 rf a0 x1) o_fuel (0 : Int32) μ0) fun ex1 μ1 =>
  if ex1.1 = 27 then (
    some (1, μ1))
  else
  if ex1.1 = 35 then (
    some (0, μ1))
  else
    none
set_option maxRecDepth 20000 in
theorem dnX12_hasCover_s2 {X : o_Cx} (hX : o_ok X) {d : Nat} {a0 : Nat} {x1 : Int32} {τ2 : Int32} {μ0 : o_Mem} {K : (Nat × (Int32)) → o_Mem → Prop} {Q : Option Value → o_Mem → Prop} (h0 : o_is X a0 (.inl 12)) (h : o_Post (fX12_hasCover_s2 (o_rf X) a0 x1 τ2 μ0) K) (kh : ∀ (τ2 : Int32) (μ : o_Mem), K (2, τ2) μ → o_Ev X (d + 1) mX12_hasCover 2 [some (.ref (o_ad X a0)), some (.int x1), some (.int τ2)] [] μ Q) (k27 : ∀ (τ2 : Int32) (μ : o_Mem), K (27, τ2) μ → o_Ev X (d + 1) mX12_hasCover 27 [none, none, none] [] μ Q) (k35 : ∀ (τ2 : Int32) (μ : o_Mem), K (35, τ2) μ → o_Ev X (d + 1) mX12_hasCover 35 [none, none, none] [] μ Q) : o_Ev X (d + 1) mX12_hasCover 2 [some (.ref (o_ad X a0)), some (.int x1), some (.int τ2)] [] μ0 Q := by
  unfold fX12_hasCover_s2 at h
  refine s_iload_n (i := 2) dX12_hasCover_2 rfl rfl ?_
  refine s_aload_n (i := 0) dX12_hasCover_3 rfl rfl ?_
  refine s_getR hX h0 flX12_7 rfl dX12_hasCover_4 (fun (g1 : o_is X (o_rf X a0 0) (.inr (0, 3756))) => ?_)
  refine s_iconst dX12_hasCover_7 kI_5 ?_
  refine s_ialdK g1 ⟨by decide, by decide⟩ kN_5 dX12_hasCover_8 ?_
  refine s_icmp_ge (tgt := 35) dX12_hasCover_9 rfl (fun c1 => ?_) (fun c1 => ?_)
  · have h := o_if_t c1 h
    refine s_mask [false, false, false] (L' := [none, none, none]) rfl ?_
    exact k35 0 _ (o_ret h)
  · have h := o_if_f c1 h
    refine s_aload_n (i := 0) dX12_hasCover_12 rfl rfl ?_
    refine s_getR hX h0 flX12_7 rfl dX12_hasCover_13 (fun (g2 : o_is X (o_rf X a0 0) (.inr (0, 3756))) => ?_)
    refine s_iload_n (i := 2) dX12_hasCover_16 rfl rfl ?_
    refine s_callSi (C := mX12_coverRow) (As := [.int τ2]) (rest := [.ref (o_ad X (o_rf X a0 0))]) (L0 := [some (.int τ2)]) clX12_311 dX12_hasCover_17 rfl rfl (Nat.le_of_ble_eq_true rfl) (Nat.le_of_ble_eq_true rfl) (dnX12_coverRow hX  (o_bdp h)) (fun r1 μ1 h => ?_)
    refine s_iconst dX12_hasCover_20 kI_4 ?_
    refine s_iadd dX12_hasCover_21 ?_
    have hc := o_ck_c h
    have h := o_ck_k h
    refine s_ialdK g2 hc rfl dX12_hasCover_22 ?_
    refine s_iload_n (i := 1) dX12_hasCover_23 rfl rfl ?_
    refine s_icmp_ne (tgt := 29) dX12_hasCover_24 rfl (fun c1 => ?_) (fun c1 => ?_)
    · have h := o_if_f c1 h
      refine s_iinc (v := (τ2 + 1)) dX12_hasCover_29 rfl rfl (Nat.le_of_ble_eq_true rfl) rfl ?_
      refine s_goto (tgt := 2) dX12_hasCover_32 rfl ?_
      refine s_mask [true, true, true] (L' := [some (.ref (o_ad X a0)), some (.int x1), some (.int (τ2 + 1))]) rfl ?_
      exact kh (τ2 + 1) _ (o_ret h)
    · have h := o_if_t c1 h
      refine s_mask [false, false, false] (L' := [none, none, none]) rfl ?_
      exact k27 0 _ (o_ret h)
set_option maxRecDepth 20000 in
theorem dnX12_hasCover {X : o_Cx} (hX : o_ok X) {d : Nat} {a0 : Nat} {x1 : Int32} {μ0 : o_Mem} {q : Int32 → o_Mem → Prop} (h0 : o_is X a0 (.inl 12)) (h : o_Post (fX12_hasCover (o_rf X) a0 x1 μ0) q) : o_Ev X (d + 1) mX12_hasCover 0 [some (.ref (o_ad X a0)), some (.int x1), none] [] μ0 (o_QZ q) := by
  unfold fX12_hasCover at h
  refine s_iconst dX12_hasCover_0 kI_0 ?_
  refine s_istore_n (i := 2) dX12_hasCover_1 rfl (Nat.le_of_ble_eq_true rfl) rfl ?_
  refine s_mask [true, true, true] (L' := [some (.ref (o_ad X a0)), some (.int x1), some (.int 0)]) rfl ?_
  refine o_lp_ev (fun τ2 => [some (.ref (o_ad X a0)), some (.int x1), some (.int τ2)]) (fun τ2 μ _K h kv ke2 => dnX12_hasCover_s2 hX h0 h kv (fun τ2 μ1 h => ?_) (fun τ2 μ1 h => ?_)) o_fuel 0 μ0 (o_bdp h)
  · have h := o_if_t rfl (ke2 (27, τ2) μ1 (o_ne rfl) h)
    refine s_iconst dX12_hasCover_27 kI_1 ?_
    exact s_zreturn rfl (Or.inr rfl) dX12_hasCover_28 ⟨_, rfl, (Or.inr rfl), o_ret h⟩
  · have h := o_if_t rfl (o_if_f (o_ne rfl) (ke2 (35, τ2) μ1 (o_ne rfl) h))
    refine s_iconst dX12_hasCover_35 kI_0 ?_
    exact s_zreturn rfl (Or.inl rfl) dX12_hasCover_36 ⟨_, rfl, (Or.inl rfl), o_ret h⟩
theorem dX12_holds_0 : decode cX12_holds 0 = .ok (.aload_n 0, 1) := by decide +kernel
theorem dX12_holds_1 : decode cX12_holds 1 = .ok (.getfield 7, 3) := by decide +kernel
theorem dX12_holds_4 : decode cX12_holds 4 = .ok (.iload_n 1, 1) := by decide +kernel
theorem dX12_holds_5 : decode cX12_holds 5 = .ok (.iaload, 1) := by decide +kernel
theorem dX12_holds_6 : decode cX12_holds 6 = .ok (.sipush 2000, 3) := by decide +kernel
theorem dX12_holds_9 : decode cX12_holds 9 = .ok (.isub, 1) := by decide +kernel
theorem dX12_holds_10 : decode cX12_holds 10 = .ok (.istore_n 2, 1) := by decide +kernel
theorem dX12_holds_11 : decode cX12_holds 11 = .ok (.iload_n 2, 1) := by decide +kernel
theorem dX12_holds_12 : decode cX12_holds 12 = .ok (.bipush 24, 2) := by decide +kernel
theorem dX12_holds_14 : decode cX12_holds 14 = .ok (.if_icmp .ne 16, 3) := by decide +kernel
theorem dX12_holds_17 : decode cX12_holds 17 = .ok (.aload_n 0, 1) := by decide +kernel
theorem dX12_holds_18 : decode cX12_holds 18 = .ok (.aload_n 0, 1) := by decide +kernel
theorem dX12_holds_19 : decode cX12_holds 19 = .ok (.getfield 7, 3) := by decide +kernel
theorem dX12_holds_22 : decode cX12_holds 22 = .ok (.iload_n 1, 1) := by decide +kernel
theorem dX12_holds_23 : decode cX12_holds 23 = .ok (.iconst 1, 1) := by decide +kernel
theorem dX12_holds_24 : decode cX12_holds 24 = .ok (.iadd, 1) := by decide +kernel
theorem dX12_holds_25 : decode cX12_holds 25 = .ok (.iaload, 1) := by decide +kernel
theorem dX12_holds_26 : decode cX12_holds 26 = .ok (.invokevirtual 465, 3) := by decide +kernel
theorem dX12_holds_29 : decode cX12_holds 29 = .ok (.ireturn, 1) := by decide +kernel
theorem dX12_holds_30 : decode cX12_holds 30 = .ok (.iload_n 2, 1) := by decide +kernel
theorem dX12_holds_31 : decode cX12_holds 31 = .ok (.bipush 26, 2) := by decide +kernel
theorem dX12_holds_33 : decode cX12_holds 33 = .ok (.if_icmp .ne 20, 3) := by decide +kernel
theorem dX12_holds_36 : decode cX12_holds 36 = .ok (.aload_n 0, 1) := by decide +kernel
theorem dX12_holds_37 : decode cX12_holds 37 = .ok (.getfield 7, 3) := by decide +kernel
theorem dX12_holds_40 : decode cX12_holds 40 = .ok (.bipush 8, 2) := by decide +kernel
theorem dX12_holds_42 : decode cX12_holds 42 = .ok (.iaload, 1) := by decide +kernel
theorem dX12_holds_43 : decode cX12_holds 43 = .ok (.iconst 1, 1) := by decide +kernel
theorem dX12_holds_44 : decode cX12_holds 44 = .ok (.if_icmp .ne 7, 3) := by decide +kernel
theorem dX12_holds_47 : decode cX12_holds 47 = .ok (.iconst 1, 1) := by decide +kernel
theorem dX12_holds_48 : decode cX12_holds 48 = .ok (.goto 4, 3) := by decide +kernel
theorem dX12_holds_51 : decode cX12_holds 51 = .ok (.iconst 0, 1) := by decide +kernel
theorem dX12_holds_52 : decode cX12_holds 52 = .ok (.ireturn, 1) := by decide +kernel
theorem dX12_holds_53 : decode cX12_holds 53 = .ok (.aload_n 0, 1) := by decide +kernel
theorem dX12_holds_54 : decode cX12_holds 54 = .ok (.getfield 7, 3) := by decide +kernel
theorem dX12_holds_57 : decode cX12_holds 57 = .ok (.iconst 4, 1) := by decide +kernel
theorem dX12_holds_58 : decode cX12_holds 58 = .ok (.iaload, 1) := by decide +kernel
theorem dX12_holds_59 : decode cX12_holds 59 = .ok (.istore_n 3, 1) := by decide +kernel
theorem dX12_holds_60 : decode cX12_holds 60 = .ok (.aload_n 0, 1) := by decide +kernel
theorem dX12_holds_61 : decode cX12_holds 61 = .ok (.getfield 7, 3) := by decide +kernel
theorem dX12_holds_64 : decode cX12_holds 64 = .ok (.iload_n 1, 1) := by decide +kernel
theorem dX12_holds_65 : decode cX12_holds 65 = .ok (.iconst 5, 1) := by decide +kernel
theorem dX12_holds_66 : decode cX12_holds 66 = .ok (.iadd, 1) := by decide +kernel
theorem dX12_holds_67 : decode cX12_holds 67 = .ok (.iaload, 1) := by decide +kernel
theorem dX12_holds_68 : decode cX12_holds 68 = .ok (.bipush 60, 2) := by decide +kernel
theorem dX12_holds_70 : decode cX12_holds 70 = .ok (.if_icmp .ne 23, 3) := by decide +kernel
theorem dX12_holds_73 : decode cX12_holds 73 = .ok (.iload_n 3, 1) := by decide +kernel
theorem dX12_holds_74 : decode cX12_holds 74 = .ok (.aload_n 0, 1) := by decide +kernel
theorem dX12_holds_75 : decode cX12_holds 75 = .ok (.getfield 7, 3) := by decide +kernel
theorem dX12_holds_78 : decode cX12_holds 78 = .ok (.iload_n 1, 1) := by decide +kernel
theorem dX12_holds_79 : decode cX12_holds 79 = .ok (.iconst 2, 1) := by decide +kernel
theorem dX12_holds_80 : decode cX12_holds 80 = .ok (.iadd, 1) := by decide +kernel
theorem dX12_holds_81 : decode cX12_holds 81 = .ok (.iaload, 1) := by decide +kernel
theorem dX12_holds_82 : decode cX12_holds 82 = .ok (.if_icmp .ge 7, 3) := by decide +kernel
theorem dX12_holds_85 : decode cX12_holds 85 = .ok (.iconst 1, 1) := by decide +kernel
theorem dX12_holds_86 : decode cX12_holds 86 = .ok (.goto 57, 3) := by decide +kernel
theorem dX12_holds_89 : decode cX12_holds 89 = .ok (.iconst 0, 1) := by decide +kernel
theorem dX12_holds_90 : decode cX12_holds 90 = .ok (.goto 53, 3) := by decide +kernel
theorem dX12_holds_93 : decode cX12_holds 93 = .ok (.aload_n 0, 1) := by decide +kernel
theorem dX12_holds_94 : decode cX12_holds 94 = .ok (.getfield 7, 3) := by decide +kernel
theorem dX12_holds_97 : decode cX12_holds 97 = .ok (.iload_n 1, 1) := by decide +kernel
theorem dX12_holds_98 : decode cX12_holds 98 = .ok (.iconst 5, 1) := by decide +kernel
theorem dX12_holds_99 : decode cX12_holds 99 = .ok (.iadd, 1) := by decide +kernel
theorem dX12_holds_100 : decode cX12_holds 100 = .ok (.iaload, 1) := by decide +kernel
theorem dX12_holds_101 : decode cX12_holds 101 = .ok (.bipush 62, 2) := by decide +kernel
theorem dX12_holds_103 : decode cX12_holds 103 = .ok (.if_icmp .ne 23, 3) := by decide +kernel
theorem dX12_holds_106 : decode cX12_holds 106 = .ok (.iload_n 3, 1) := by decide +kernel
theorem dX12_holds_107 : decode cX12_holds 107 = .ok (.aload_n 0, 1) := by decide +kernel
theorem dX12_holds_108 : decode cX12_holds 108 = .ok (.getfield 7, 3) := by decide +kernel
theorem dX12_holds_111 : decode cX12_holds 111 = .ok (.iload_n 1, 1) := by decide +kernel
theorem dX12_holds_112 : decode cX12_holds 112 = .ok (.iconst 2, 1) := by decide +kernel
theorem dX12_holds_113 : decode cX12_holds 113 = .ok (.iadd, 1) := by decide +kernel
theorem dX12_holds_114 : decode cX12_holds 114 = .ok (.iaload, 1) := by decide +kernel
theorem dX12_holds_115 : decode cX12_holds 115 = .ok (.if_icmp .le 7, 3) := by decide +kernel
theorem dX12_holds_118 : decode cX12_holds 118 = .ok (.iconst 1, 1) := by decide +kernel
theorem dX12_holds_119 : decode cX12_holds 119 = .ok (.goto 24, 3) := by decide +kernel
theorem dX12_holds_122 : decode cX12_holds 122 = .ok (.iconst 0, 1) := by decide +kernel
theorem dX12_holds_123 : decode cX12_holds 123 = .ok (.goto 20, 3) := by decide +kernel
theorem dX12_holds_126 : decode cX12_holds 126 = .ok (.iload_n 3, 1) := by decide +kernel
theorem dX12_holds_127 : decode cX12_holds 127 = .ok (.aload_n 0, 1) := by decide +kernel
theorem dX12_holds_128 : decode cX12_holds 128 = .ok (.getfield 7, 3) := by decide +kernel
theorem dX12_holds_131 : decode cX12_holds 131 = .ok (.iload_n 1, 1) := by decide +kernel
theorem dX12_holds_132 : decode cX12_holds 132 = .ok (.iconst 2, 1) := by decide +kernel
theorem dX12_holds_133 : decode cX12_holds 133 = .ok (.iadd, 1) := by decide +kernel
theorem dX12_holds_134 : decode cX12_holds 134 = .ok (.iaload, 1) := by decide +kernel
theorem dX12_holds_135 : decode cX12_holds 135 = .ok (.if_icmp .ne 7, 3) := by decide +kernel
theorem dX12_holds_138 : decode cX12_holds 138 = .ok (.iconst 1, 1) := by decide +kernel
theorem dX12_holds_139 : decode cX12_holds 139 = .ok (.goto 4, 3) := by decide +kernel
theorem dX12_holds_142 : decode cX12_holds 142 = .ok (.iconst 0, 1) := by decide +kernel
theorem dX12_holds_143 : decode cX12_holds 143 = .ok (.ireturn, 1) := by decide +kernel
noncomputable def fX12_holds (rf : Nat → Nat → Nat) (a0 : Nat) (x1 : Int32) (μ0 : o_Mem) : Option (Int32 × o_Mem) :=
  o_ck (0 ≤ (x1).toInt ∧ (x1).toInt < 3756) <|
  if ((μ0.1 (rf a0 0) x1.toNatClampNeg) - 2000) = 24 then (
    o_ck (0 ≤ ((x1 + 1)).toInt ∧ ((x1 + 1)).toInt < 3756) <|
    o_bd (fX12_hasCover rf a0 (μ0.1 (rf a0 0) ((x1 + 1)).toNatClampNeg) μ0) fun r1 μ1 =>
    some (r1, μ1))
  else (
    if ((μ0.1 (rf a0 0) x1.toNatClampNeg) - 2000) = 26 then (
      if (μ0.1 (rf a0 0) 8) = 1 then (
        some (1, μ0))
      else (
        some (0, μ0)))
    else (
      o_ck (0 ≤ ((x1 + 5)).toInt ∧ ((x1 + 5)).toInt < 3756) <|
      if (μ0.1 (rf a0 0) ((x1 + 5)).toNatClampNeg) = 60 then (
        o_ck (0 ≤ ((x1 + 2)).toInt ∧ ((x1 + 2)).toInt < 3756) <|
        if (μ0.1 (rf a0 0) ((x1 + 2)).toNatClampNeg) ≤ (μ0.1 (rf a0 0) 4) then (
          some (0, μ0))
        else (
          some (1, μ0)))
      else (
        o_ck (0 ≤ ((x1 + 5)).toInt ∧ ((x1 + 5)).toInt < 3756) <|
        if (μ0.1 (rf a0 0) ((x1 + 5)).toNatClampNeg) = 62 then (
          o_ck (0 ≤ ((x1 + 2)).toInt ∧ ((x1 + 2)).toInt < 3756) <|
          if (μ0.1 (rf a0 0) 4) ≤ (μ0.1 (rf a0 0) ((x1 + 2)).toNatClampNeg) then (
            some (0, μ0))
          else (
            some (1, μ0)))
        else (
          o_ck (0 ≤ ((x1 + 2)).toInt ∧ ((x1 + 2)).toInt < 3756) <|
          if (μ0.1 (rf a0 0) 4) = (μ0.1 (rf a0 0) ((x1 + 2)).toNatClampNeg) then (
            some (1, μ0))
          else (
            some (0, μ0))))))
set_option maxRecDepth 20000 in
theorem dnX12_holds {X : o_Cx} (hX : o_ok X) {d : Nat} {a0 : Nat} {x1 : Int32} {μ0 : o_Mem} {q : Int32 → o_Mem → Prop} (h0 : o_is X a0 (.inl 12)) (h : o_Post (fX12_holds (o_rf X) a0 x1 μ0) q) : o_Ev X (d + 2) mX12_holds 0 [some (.ref (o_ad X a0)), some (.int x1), none, none] [] μ0 (o_QZ q) := by
  unfold fX12_holds at h
  refine s_aload_n (i := 0) dX12_holds_0 rfl rfl ?_
  refine s_getR hX h0 flX12_7 rfl dX12_holds_1 (fun (g1 : o_is X (o_rf X a0 0) (.inr (0, 3756))) => ?_)
  refine s_iload_n (i := 1) dX12_holds_4 rfl rfl ?_
  have hc := o_ck_c h
  have h := o_ck_k h
  refine s_ialdK g1 hc rfl dX12_holds_5 ?_
  refine s_sipush dX12_holds_6 kS_2000 ?_
  refine s_isub dX12_holds_9 ?_
  refine s_istore_n (i := 2) dX12_holds_10 rfl (Nat.le_of_ble_eq_true rfl) rfl ?_
  refine s_iload_n (i := 2) dX12_holds_11 rfl rfl ?_
  refine s_bipush dX12_holds_12 kB_24 ?_
  refine s_icmp_ne (tgt := 30) dX12_holds_14 rfl (fun c1 => ?_) (fun c1 => ?_)
  · have h := o_if_f c1 h
    refine s_iload_n (i := 2) dX12_holds_30 rfl rfl ?_
    refine s_bipush dX12_holds_31 kB_26 ?_
    refine s_icmp_ne (tgt := 53) dX12_holds_33 rfl (fun c1 => ?_) (fun c1 => ?_)
    · have h := o_if_f c1 h
      refine s_aload_n (i := 0) dX12_holds_53 rfl rfl ?_
      refine s_getR hX h0 flX12_7 rfl dX12_holds_54 (fun (g2 : o_is X (o_rf X a0 0) (.inr (0, 3756))) => ?_)
      refine s_iconst dX12_holds_57 kI_4 ?_
      refine s_ialdK g2 ⟨by decide, by decide⟩ kN_4 dX12_holds_58 ?_
      refine s_istore_n (i := 3) dX12_holds_59 rfl (Nat.le_of_ble_eq_true rfl) rfl ?_
      refine s_aload_n (i := 0) dX12_holds_60 rfl rfl ?_
      refine s_getR hX h0 flX12_7 rfl dX12_holds_61 (fun (g3 : o_is X (o_rf X a0 0) (.inr (0, 3756))) => ?_)
      refine s_iload_n (i := 1) dX12_holds_64 rfl rfl ?_
      refine s_iconst dX12_holds_65 kI_5 ?_
      refine s_iadd dX12_holds_66 ?_
      have hc := o_ck_c h
      have h := o_ck_k h
      refine s_ialdK g3 hc rfl dX12_holds_67 ?_
      refine s_bipush dX12_holds_68 kB_60 ?_
      refine s_icmp_ne (tgt := 93) dX12_holds_70 rfl (fun c1 => ?_) (fun c1 => ?_)
      · have h := o_if_f c1 h
        refine s_aload_n (i := 0) dX12_holds_93 rfl rfl ?_
        refine s_getR hX h0 flX12_7 rfl dX12_holds_94 (fun (g4 : o_is X (o_rf X a0 0) (.inr (0, 3756))) => ?_)
        refine s_iload_n (i := 1) dX12_holds_97 rfl rfl ?_
        refine s_iconst dX12_holds_98 kI_5 ?_
        refine s_iadd dX12_holds_99 ?_
        have hc := o_ck_c h
        have h := o_ck_k h
        refine s_ialdK g4 hc rfl dX12_holds_100 ?_
        refine s_bipush dX12_holds_101 kB_62 ?_
        refine s_icmp_ne (tgt := 126) dX12_holds_103 rfl (fun c1 => ?_) (fun c1 => ?_)
        · have h := o_if_f c1 h
          refine s_iload_n (i := 3) dX12_holds_126 rfl rfl ?_
          refine s_aload_n (i := 0) dX12_holds_127 rfl rfl ?_
          refine s_getR hX h0 flX12_7 rfl dX12_holds_128 (fun (g5 : o_is X (o_rf X a0 0) (.inr (0, 3756))) => ?_)
          refine s_iload_n (i := 1) dX12_holds_131 rfl rfl ?_
          refine s_iconst dX12_holds_132 kI_2 ?_
          refine s_iadd dX12_holds_133 ?_
          have hc := o_ck_c h
          have h := o_ck_k h
          refine s_ialdK g5 hc rfl dX12_holds_134 ?_
          refine s_icmp_ne (tgt := 142) dX12_holds_135 rfl (fun c1 => ?_) (fun c1 => ?_)
          · have h := o_if_f c1 h
            refine s_iconst dX12_holds_142 kI_0 ?_
            exact s_zreturn rfl (Or.inl rfl) dX12_holds_143 ⟨_, rfl, (Or.inl rfl), o_ret h⟩
          · have h := o_if_t c1 h
            refine s_iconst dX12_holds_138 kI_1 ?_
            refine s_goto (tgt := 143) dX12_holds_139 rfl ?_
            exact s_zreturn rfl (Or.inr rfl) dX12_holds_143 ⟨_, rfl, (Or.inr rfl), o_ret h⟩
        · have h := o_if_t c1 h
          refine s_iload_n (i := 3) dX12_holds_106 rfl rfl ?_
          refine s_aload_n (i := 0) dX12_holds_107 rfl rfl ?_
          refine s_getR hX h0 flX12_7 rfl dX12_holds_108 (fun (g6 : o_is X (o_rf X a0 0) (.inr (0, 3756))) => ?_)
          refine s_iload_n (i := 1) dX12_holds_111 rfl rfl ?_
          refine s_iconst dX12_holds_112 kI_2 ?_
          refine s_iadd dX12_holds_113 ?_
          have hc := o_ck_c h
          have h := o_ck_k h
          refine s_ialdK g6 hc rfl dX12_holds_114 ?_
          refine s_icmp_le (tgt := 122) dX12_holds_115 rfl (fun c1 => ?_) (fun c1 => ?_)
          · have h := o_if_t c1 h
            refine s_iconst dX12_holds_122 kI_0 ?_
            refine s_goto (tgt := 143) dX12_holds_123 rfl ?_
            exact s_zreturn rfl (Or.inl rfl) dX12_holds_143 ⟨_, rfl, (Or.inl rfl), o_ret h⟩
          · have h := o_if_f c1 h
            refine s_iconst dX12_holds_118 kI_1 ?_
            refine s_goto (tgt := 143) dX12_holds_119 rfl ?_
            exact s_zreturn rfl (Or.inr rfl) dX12_holds_143 ⟨_, rfl, (Or.inr rfl), o_ret h⟩
      · have h := o_if_t c1 h
        refine s_iload_n (i := 3) dX12_holds_73 rfl rfl ?_
        refine s_aload_n (i := 0) dX12_holds_74 rfl rfl ?_
        refine s_getR hX h0 flX12_7 rfl dX12_holds_75 (fun (g7 : o_is X (o_rf X a0 0) (.inr (0, 3756))) => ?_)
        refine s_iload_n (i := 1) dX12_holds_78 rfl rfl ?_
        refine s_iconst dX12_holds_79 kI_2 ?_
        refine s_iadd dX12_holds_80 ?_
        have hc := o_ck_c h
        have h := o_ck_k h
        refine s_ialdK g7 hc rfl dX12_holds_81 ?_
        refine s_icmp_ge (tgt := 89) dX12_holds_82 rfl (fun c1 => ?_) (fun c1 => ?_)
        · have h := o_if_t c1 h
          refine s_iconst dX12_holds_89 kI_0 ?_
          refine s_goto (tgt := 143) dX12_holds_90 rfl ?_
          exact s_zreturn rfl (Or.inl rfl) dX12_holds_143 ⟨_, rfl, (Or.inl rfl), o_ret h⟩
        · have h := o_if_f c1 h
          refine s_iconst dX12_holds_85 kI_1 ?_
          refine s_goto (tgt := 143) dX12_holds_86 rfl ?_
          exact s_zreturn rfl (Or.inr rfl) dX12_holds_143 ⟨_, rfl, (Or.inr rfl), o_ret h⟩
    · have h := o_if_t c1 h
      refine s_aload_n (i := 0) dX12_holds_36 rfl rfl ?_
      refine s_getR hX h0 flX12_7 rfl dX12_holds_37 (fun (g8 : o_is X (o_rf X a0 0) (.inr (0, 3756))) => ?_)
      refine s_bipush dX12_holds_40 kB_8 ?_
      refine s_ialdK g8 ⟨by decide, by decide⟩ kN_8 dX12_holds_42 ?_
      refine s_iconst dX12_holds_43 kI_1 ?_
      refine s_icmp_ne (tgt := 51) dX12_holds_44 rfl (fun c1 => ?_) (fun c1 => ?_)
      · have h := o_if_f c1 h
        refine s_iconst dX12_holds_51 kI_0 ?_
        exact s_zreturn rfl (Or.inl rfl) dX12_holds_52 ⟨_, rfl, (Or.inl rfl), o_ret h⟩
      · have h := o_if_t c1 h
        refine s_iconst dX12_holds_47 kI_1 ?_
        refine s_goto (tgt := 52) dX12_holds_48 rfl ?_
        exact s_zreturn rfl (Or.inr rfl) dX12_holds_52 ⟨_, rfl, (Or.inr rfl), o_ret h⟩
  · have h := o_if_t c1 h
    refine s_aload_n (i := 0) dX12_holds_17 rfl rfl ?_
    refine s_aload_n (i := 0) dX12_holds_18 rfl rfl ?_
    refine s_getR hX h0 flX12_7 rfl dX12_holds_19 (fun (g9 : o_is X (o_rf X a0 0) (.inr (0, 3756))) => ?_)
    refine s_iload_n (i := 1) dX12_holds_22 rfl rfl ?_
    refine s_iconst dX12_holds_23 kI_1 ?_
    refine s_iadd dX12_holds_24 ?_
    have hc := o_ck_c h
    have h := o_ck_k h
    refine s_ialdK g9 hc rfl dX12_holds_25 ?_
    refine s_callVz (C := mX12_hasCover) (As := [.int (μ0.1 (o_rf X a0 0) ((x1 + 1)).toNatClampNeg)]) (rest := []) (L0 := [some (.ref (o_ad X a0)), some (.int (μ0.1 (o_rf X a0 0) ((x1 + 1)).toNatClampNeg)), none]) hX h0 clX12_465 dX12_holds_26 rfl rfl (Nat.le_of_ble_eq_true rfl) (Nat.le_of_ble_eq_true rfl) (dnX12_hasCover hX h0 (o_bdp h)) (fun r1 μ1 zr1 h => ?_)
    exact s_zreturn rfl zr1 dX12_holds_29 ⟨_, rfl, zr1, o_ret h⟩
