theorem dX9_takeOdds_0 : decode cX9_takeOdds 0 = .ok (.aload_n 0, 1) := by decide +kernel
theorem dX9_takeOdds_1 : decode cX9_takeOdds 1 = .ok (.getfield 30, 3) := by decide +kernel
theorem dX9_takeOdds_4 : decode cX9_takeOdds 4 = .ok (.ifCond .eq 12, 3) := by decide +kernel
theorem dX9_takeOdds_7 : decode cX9_takeOdds 7 = .ok (.aload_n 0, 1) := by decide +kernel
theorem dX9_takeOdds_8 : decode cX9_takeOdds 8 = .ok (.getfield 9, 3) := by decide +kernel
theorem dX9_takeOdds_11 : decode cX9_takeOdds 11 = .ok (.iconst 5, 1) := by decide +kernel
theorem dX9_takeOdds_12 : decode cX9_takeOdds 12 = .ok (.invokevirtual 63, 3) := by decide +kernel
theorem dX9_takeOdds_15 : decode cX9_takeOdds 15 = .ok (.ireturn, 1) := by decide +kernel
theorem dX9_takeOdds_16 : decode cX9_takeOdds 16 = .ok (.aload_n 0, 1) := by decide +kernel
theorem dX9_takeOdds_17 : decode cX9_takeOdds 17 = .ok (.iconst 1, 1) := by decide +kernel
theorem dX9_takeOdds_18 : decode cX9_takeOdds 18 = .ok (.putfield 30, 3) := by decide +kernel
theorem dX9_takeOdds_21 : decode cX9_takeOdds 21 = .ok (.aload_n 0, 1) := by decide +kernel
theorem dX9_takeOdds_22 : decode cX9_takeOdds 22 = .ok (.getfield 9, 3) := by decide +kernel
theorem dX9_takeOdds_25 : decode cX9_takeOdds 25 = .ok (.invokevirtual 86, 3) := by decide +kernel
theorem dX9_takeOdds_28 : decode cX9_takeOdds 28 = .ok (.aload_n 0, 1) := by decide +kernel
theorem dX9_takeOdds_29 : decode cX9_takeOdds 29 = .ok (.getfield 9, 3) := by decide +kernel
theorem dX9_takeOdds_32 : decode cX9_takeOdds 32 = .ok (.iconst 0, 1) := by decide +kernel
theorem dX9_takeOdds_33 : decode cX9_takeOdds 33 = .ok (.bipush 16, 2) := by decide +kernel
theorem dX9_takeOdds_35 : decode cX9_takeOdds 35 = .ok (.invokevirtual 95, 3) := by decide +kernel
theorem dX9_takeOdds_38 : decode cX9_takeOdds 38 = .ok (.istore_n 1, 1) := by decide +kernel
theorem dX9_takeOdds_39 : decode cX9_takeOdds 39 = .ok (.iload_n 1, 1) := by decide +kernel
theorem dX9_takeOdds_40 : decode cX9_takeOdds 40 = .ok (.iconst (-1), 1) := by decide +kernel
theorem dX9_takeOdds_41 : decode cX9_takeOdds 41 = .ok (.if_icmp .ne 5, 3) := by decide +kernel
theorem dX9_takeOdds_44 : decode cX9_takeOdds 44 = .ok (.iconst 0, 1) := by decide +kernel
theorem dX9_takeOdds_45 : decode cX9_takeOdds 45 = .ok (.ireturn, 1) := by decide +kernel
theorem dX9_takeOdds_46 : decode cX9_takeOdds 46 = .ok (.aload_n 0, 1) := by decide +kernel
theorem dX9_takeOdds_47 : decode cX9_takeOdds 47 = .ok (.getfield 15, 3) := by decide +kernel
theorem dX9_takeOdds_50 : decode cX9_takeOdds 50 = .ok (.iload_n 1, 1) := by decide +kernel
theorem dX9_takeOdds_51 : decode cX9_takeOdds 51 = .ok (.putfield 152, 3) := by decide +kernel
theorem dX9_takeOdds_54 : decode cX9_takeOdds 54 = .ok (.aload_n 0, 1) := by decide +kernel
theorem dX9_takeOdds_55 : decode cX9_takeOdds 55 = .ok (.getfield 9, 3) := by decide +kernel
theorem dX9_takeOdds_58 : decode cX9_takeOdds 58 = .ok (.invokevirtual 103, 3) := by decide +kernel
theorem dX9_takeOdds_61 : decode cX9_takeOdds 61 = .ok (.ireturn, 1) := by decide +kernel
noncomputable def fX9_takeOdds (rf : Nat → Nat → Nat) (a0 : Nat) (μ0 : o_Mem) : Option (Int32 × o_Mem) :=
  if (μ0.1 a0 2) = 0 then (
    o_seq (o_wI μ0 a0 2 1) fun μ1 =>
    o_bd (fX4_next rf (rf a0 0) μ1) fun _u μ2 =>
    o_bd (fX4_wantNumber rf (rf a0 0) 0 16 μ2) fun r1 μ3 =>
    if r1 = (-1) then (
      some (0, μ3))
    else (
      o_seq (o_wI μ3 (rf a0 1) 4 r1) fun μ4 =>
      o_bd (fX4_wantClose rf (rf a0 0) μ4) fun r2 μ5 =>
      some (r2, μ5)))
  else (
    o_bd (fX4_fail rf (rf a0 0) 5 μ0) fun r3 μ6 =>
    some (r3, μ6))
set_option maxRecDepth 20000 in
theorem dnX9_takeOdds {X : o_Cx} (hX : o_ok X) {d : Nat} {a0 : Nat} {μ0 : o_Mem} {q : Int32 → o_Mem → Prop} (h0 : o_is X a0 (.inl 9)) (h : o_Post (fX9_takeOdds (o_rf X) a0 μ0) q) : o_Ev X (d + 7) mX9_takeOdds 0 [some (.ref (o_ad X a0)), none] [] μ0 (o_QZ q) := by
  unfold fX9_takeOdds at h
  refine s_aload_n (i := 0) dX9_takeOdds_0 rfl rfl ?_
  refine s_getI h0 flX9_30 rfl dX9_takeOdds_1 ?_
  refine s_if_eq (tgt := 16) dX9_takeOdds_4 rfl (fun c1 => ?_) (fun c1 => ?_)
  · have h := o_if_t c1 h
    refine s_aload_n (i := 0) dX9_takeOdds_16 rfl rfl ?_
    refine s_iconst dX9_takeOdds_17 kI_1 ?_
    refine s_putZ hX h0 fwX9_30 rfl (Or.inr rfl) dX9_takeOdds_18 (o_gen h (fun μ1 h => ?_))
    refine s_aload_n (i := 0) dX9_takeOdds_21 rfl rfl ?_
    refine s_getR hX h0 flX9_9 rfl dX9_takeOdds_22 (fun (g1 : o_is X (o_rf X a0 0) (.inl 4)) => ?_)
    refine s_callVu (C := mX4_next) (As := []) (rest := []) (L0 := [some (.ref (o_ad X (o_rf X a0 0)))]) hX g1 clX9_86 dX9_takeOdds_25 rfl rfl (Nat.le_of_ble_eq_true rfl) (Nat.le_of_ble_eq_true rfl) (dnX4_next hX g1 (o_bdp h)) (fun _u μ2 h => ?_)
    refine s_aload_n (i := 0) dX9_takeOdds_28 rfl rfl ?_
    refine s_getR hX h0 flX9_9 rfl dX9_takeOdds_29 (fun (g2 : o_is X (o_rf X a0 0) (.inl 4)) => ?_)
    refine s_iconst dX9_takeOdds_32 kI_0 ?_
    refine s_bipush dX9_takeOdds_33 kB_16 ?_
    refine s_callVi (C := mX4_wantNumber) (As := [.int 0, .int 16]) (rest := []) (L0 := [some (.ref (o_ad X (o_rf X a0 0))), some (.int 0), some (.int 16), none]) hX g2 clX9_95 dX9_takeOdds_35 rfl rfl (Nat.le_of_ble_eq_true rfl) (Nat.le_of_ble_eq_true rfl) (dnX4_wantNumber hX g2 (o_bdp h)) (fun r1 μ3 h => ?_)
    refine s_istore_n (i := 1) dX9_takeOdds_38 rfl (Nat.le_of_ble_eq_true rfl) rfl ?_
    refine s_iload_n (i := 1) dX9_takeOdds_39 rfl rfl ?_
    refine s_iconst dX9_takeOdds_40 kI_m1 ?_
    refine s_icmp_ne (tgt := 46) dX9_takeOdds_41 rfl (fun c1 => ?_) (fun c1 => ?_)
    · have h := o_if_f c1 h
      refine s_aload_n (i := 0) dX9_takeOdds_46 rfl rfl ?_
      refine s_getR hX h0 flX9_15 rfl dX9_takeOdds_47 (fun (g3 : o_is X (o_rf X a0 1) (.inl 8)) => ?_)
      refine s_iload_n (i := 1) dX9_takeOdds_50 rfl rfl ?_
      refine s_putI hX g3 fwX9_152 rfl dX9_takeOdds_51 (o_gen h (fun μ4 h => ?_))
      refine s_aload_n (i := 0) dX9_takeOdds_54 rfl rfl ?_
      refine s_getR hX h0 flX9_9 rfl dX9_takeOdds_55 (fun (g4 : o_is X (o_rf X a0 0) (.inl 4)) => ?_)
      refine s_callVz (C := mX4_wantClose) (As := []) (rest := []) (L0 := [some (.ref (o_ad X (o_rf X a0 0)))]) hX g4 clX9_103 dX9_takeOdds_58 rfl rfl (Nat.le_of_ble_eq_true rfl) (Nat.le_of_ble_eq_true rfl) (dnX4_wantClose hX g4 (o_bdp h)) (fun r2 μ5 zr2 h => ?_)
      exact s_zreturn rfl zr2 dX9_takeOdds_61 ⟨_, rfl, zr2, o_ret h⟩
    · have h := o_if_t c1 h
      refine s_iconst dX9_takeOdds_44 kI_0 ?_
      exact s_zreturn rfl (Or.inl rfl) dX9_takeOdds_45 ⟨_, rfl, (Or.inl rfl), o_ret h⟩
  · have h := o_if_f c1 h
    refine s_aload_n (i := 0) dX9_takeOdds_7 rfl rfl ?_
    refine s_getR hX h0 flX9_9 rfl dX9_takeOdds_8 (fun (g5 : o_is X (o_rf X a0 0) (.inl 4)) => ?_)
    refine s_iconst dX9_takeOdds_11 kI_5 ?_
    refine s_callVz (C := mX4_fail) (As := [.int 5]) (rest := []) (L0 := [some (.ref (o_ad X (o_rf X a0 0))), some (.int 5)]) hX g5 clX9_63 dX9_takeOdds_12 rfl rfl (Nat.le_of_ble_eq_true rfl) (Nat.le_of_ble_eq_true rfl) (dnX4_fail hX g5 (o_bdp h)) (fun r3 μ6 zr3 h => ?_)
    exact s_zreturn rfl zr3 dX9_takeOdds_15 ⟨_, rfl, zr3, o_ret h⟩
theorem dX9_accept_0 : decode cX9_accept 0 = .ok (.aload_n 0, 1) := by decide +kernel
theorem dX9_accept_1 : decode cX9_accept 1 = .ok (.getfield 9, 3) := by decide +kernel
theorem dX9_accept_4 : decode cX9_accept 4 = .ok (.iload_n 1, 1) := by decide +kernel
theorem dX9_accept_5 : decode cX9_accept 5 = .ok (.invokevirtual 19, 3) := by decide +kernel
theorem dX9_accept_8 : decode cX9_accept 8 = .ok (.aload_n 0, 1) := by decide +kernel
theorem dX9_accept_9 : decode cX9_accept 9 = .ok (.getfield 15, 3) := by decide +kernel
theorem dX9_accept_12 : decode cX9_accept 12 = .ok (.invokevirtual 25, 3) := by decide +kernel
theorem dX9_accept_15 : decode cX9_accept 15 = .ok (.aload_n 0, 1) := by decide +kernel
theorem dX9_accept_16 : decode cX9_accept 16 = .ok (.iconst 0, 1) := by decide +kernel
theorem dX9_accept_17 : decode cX9_accept 17 = .ok (.putfield 30, 3) := by decide +kernel
theorem dX9_accept_20 : decode cX9_accept 20 = .ok (.iconst 1, 1) := by decide +kernel
theorem dX9_accept_21 : decode cX9_accept 21 = .ok (.istore_n 2, 1) := by decide +kernel
theorem dX9_accept_22 : decode cX9_accept 22 = .ok (.iconst 0, 1) := by decide +kernel
theorem dX9_accept_23 : decode cX9_accept 23 = .ok (.istore_n 3, 1) := by decide +kernel
theorem dX9_accept_24 : decode cX9_accept 24 = .ok (.iload_n 3, 1) := by decide +kernel
theorem dX9_accept_25 : decode cX9_accept 25 = .ok (.sipush 900, 3) := by decide +kernel
theorem dX9_accept_28 : decode cX9_accept 28 = .ok (.if_icmp .gt 171, 3) := by decide +kernel
theorem dX9_accept_31 : decode cX9_accept 31 = .ok (.iload_n 2, 1) := by decide +kernel
theorem dX9_accept_32 : decode cX9_accept 32 = .ok (.ifCond .eq 167, 3) := by decide +kernel
theorem dX9_accept_35 : decode cX9_accept 35 = .ok (.aload_n 0, 1) := by decide +kernel
theorem dX9_accept_36 : decode cX9_accept 36 = .ok (.getfield 9, 3) := by decide +kernel
theorem dX9_accept_39 : decode cX9_accept 39 = .ok (.getfield 34, 3) := by decide +kernel
theorem dX9_accept_42 : decode cX9_accept 42 = .ok (.ifCond .eq 157, 3) := by decide +kernel
theorem dX9_accept_45 : decode cX9_accept 45 = .ok (.aload_n 0, 1) := by decide +kernel
theorem dX9_accept_46 : decode cX9_accept 46 = .ok (.getfield 9, 3) := by decide +kernel
theorem dX9_accept_49 : decode cX9_accept 49 = .ok (.getfield 38, 3) := by decide +kernel
theorem dX9_accept_52 : decode cX9_accept 52 = .ok (.tableswitch 132 0 14 #[76, 132, 84, 92, 100, 132, 132, 132, 132, 132, 108, 132, 132, 116, 124], 76) := by decide +kernel
theorem dX9_accept_128 : decode cX9_accept 128 = .ok (.aload_n 0, 1) := by decide +kernel
theorem dX9_accept_129 : decode cX9_accept 129 = .ok (.invokevirtual 41, 3) := by decide +kernel
theorem dX9_accept_132 : decode cX9_accept 132 = .ok (.istore_n 2, 1) := by decide +kernel
theorem dX9_accept_133 : decode cX9_accept 133 = .ok (.goto 60, 3) := by decide +kernel
theorem dX9_accept_136 : decode cX9_accept 136 = .ok (.aload_n 0, 1) := by decide +kernel
theorem dX9_accept_137 : decode cX9_accept 137 = .ok (.invokevirtual 45, 3) := by decide +kernel
theorem dX9_accept_140 : decode cX9_accept 140 = .ok (.istore_n 2, 1) := by decide +kernel
theorem dX9_accept_141 : decode cX9_accept 141 = .ok (.goto 52, 3) := by decide +kernel
theorem dX9_accept_144 : decode cX9_accept 144 = .ok (.aload_n 0, 1) := by decide +kernel
theorem dX9_accept_145 : decode cX9_accept 145 = .ok (.invokevirtual 48, 3) := by decide +kernel
theorem dX9_accept_148 : decode cX9_accept 148 = .ok (.istore_n 2, 1) := by decide +kernel
theorem dX9_accept_149 : decode cX9_accept 149 = .ok (.goto 44, 3) := by decide +kernel
theorem dX9_accept_152 : decode cX9_accept 152 = .ok (.aload_n 0, 1) := by decide +kernel
theorem dX9_accept_153 : decode cX9_accept 153 = .ok (.invokevirtual 51, 3) := by decide +kernel
theorem dX9_accept_156 : decode cX9_accept 156 = .ok (.istore_n 2, 1) := by decide +kernel
theorem dX9_accept_157 : decode cX9_accept 157 = .ok (.goto 36, 3) := by decide +kernel
theorem dX9_accept_160 : decode cX9_accept 160 = .ok (.aload_n 0, 1) := by decide +kernel
theorem dX9_accept_161 : decode cX9_accept 161 = .ok (.invokevirtual 54, 3) := by decide +kernel
theorem dX9_accept_164 : decode cX9_accept 164 = .ok (.istore_n 2, 1) := by decide +kernel
theorem dX9_accept_165 : decode cX9_accept 165 = .ok (.goto 28, 3) := by decide +kernel
theorem dX9_accept_168 : decode cX9_accept 168 = .ok (.aload_n 0, 1) := by decide +kernel
theorem dX9_accept_169 : decode cX9_accept 169 = .ok (.invokevirtual 57, 3) := by decide +kernel
theorem dX9_accept_172 : decode cX9_accept 172 = .ok (.istore_n 2, 1) := by decide +kernel
theorem dX9_accept_173 : decode cX9_accept 173 = .ok (.goto 20, 3) := by decide +kernel
theorem dX9_accept_176 : decode cX9_accept 176 = .ok (.aload_n 0, 1) := by decide +kernel
theorem dX9_accept_177 : decode cX9_accept 177 = .ok (.invokevirtual 60, 3) := by decide +kernel
theorem dX9_accept_180 : decode cX9_accept 180 = .ok (.istore_n 2, 1) := by decide +kernel
theorem dX9_accept_181 : decode cX9_accept 181 = .ok (.goto 12, 3) := by decide +kernel
theorem dX9_accept_184 : decode cX9_accept 184 = .ok (.aload_n 0, 1) := by decide +kernel
theorem dX9_accept_185 : decode cX9_accept 185 = .ok (.getfield 9, 3) := by decide +kernel
theorem dX9_accept_188 : decode cX9_accept 188 = .ok (.iconst 2, 1) := by decide +kernel
theorem dX9_accept_189 : decode cX9_accept 189 = .ok (.invokevirtual 63, 3) := by decide +kernel
theorem dX9_accept_192 : decode cX9_accept 192 = .ok (.istore_n 2, 1) := by decide +kernel
theorem dX9_accept_193 : decode cX9_accept 193 = .ok (.iinc 3 1, 3) := by decide +kernel
theorem dX9_accept_196 : decode cX9_accept 196 = .ok (.goto (-172), 3) := by decide +kernel
theorem dX9_accept_199 : decode cX9_accept 199 = .ok (.iload_n 2, 1) := by decide +kernel
theorem dX9_accept_200 : decode cX9_accept 200 = .ok (.ireturn, 1) := by decide +kernel
noncomputable def fX9_accept_s24 (rf : Nat → Nat → Nat) (a0 : Nat) (τ24 : Int32 × Int32) (μ0 : o_Mem) : Option ((Nat × (Int32 × Int32)) × o_Mem) :=
  if 900 < τ24.2 then (
    some ((199, (τ24.1, 0)), μ0))
  else (
    if τ24.1 = 0 then (
      some ((199, (τ24.1, 0)), μ0))
    else (
      if (μ0.1 (rf a0 0) 7) = 0 then (
        some ((199, (τ24.1, 0)), μ0))
      else (
        if (μ0.1 (rf a0 0) 8) = 0 then (
          o_bd (fX9_takeStrike rf a0 μ0) fun r1 μ1 =>
          some ((24, (r1, (τ24.2 + 1))), μ1))
        else
        if (μ0.1 (rf a0 0) 8) = 2 then (
          o_bd (fX9_takeHand rf a0 μ0) fun r2 μ2 =>
          some ((24, (r2, (τ24.2 + 1))), μ2))
        else
        if (μ0.1 (rf a0 0) 8) = 3 then (
          o_bd (fX9_takePerson rf a0 μ0) fun r3 μ3 =>
          some ((24, (r3, (τ24.2 + 1))), μ3))
        else
        if (μ0.1 (rf a0 0) 8) = 4 then (
          o_bd (fX9_takeLaw rf a0 μ0) fun r4 μ4 =>
          some ((24, (r4, (τ24.2 + 1))), μ4))
        else
        if (μ0.1 (rf a0 0) 8) = 10 then (
          o_bd (fX9_takeActs rf a0 μ0) fun r5 μ5 =>
          some ((24, (r5, (τ24.2 + 1))), μ5))
        else
        if (μ0.1 (rf a0 0) 8) = 13 then (
          o_bd (fX9_takeLetter rf a0 μ0) fun r6 μ6 =>
          some ((24, (r6, (τ24.2 + 1))), μ6))
        else
        if (μ0.1 (rf a0 0) 8) = 14 then (
          o_bd (fX9_takeOdds rf a0 μ0) fun r7 μ7 =>
          some ((24, (r7, (τ24.2 + 1))), μ7))
        else
          o_bd (fX4_fail rf (rf a0 0) 2 μ0) fun r8 μ8 =>
          some ((24, (r8, (τ24.2 + 1))), μ8))))
noncomputable def fX9_accept (rf : Nat → Nat → Nat) (a0 : Nat) (x1 : Int32) (μ0 : o_Mem) : Option (Int32 × o_Mem) :=
  o_bd (fX4_begin rf (rf a0 0) x1 μ0) fun _u μ1 =>
  o_bd (fX8_clear rf (rf a0 1) μ1) fun _u μ2 =>
  o_seq (o_wI μ2 a0 2 0) fun μ3 =>
  o_bd (o_lp 24 (fX9_accept_s24 rf a0) o_fuel (1, 0) μ3) fun ex4 μ4 =>
  if ex4.1 = 199 then (
    o_ck (ex4.2.1 = 0 ∨ ex4.2.1 = 1) <|
    some (ex4.2.1, μ4))
  else
    none
set_option maxRecDepth 20000 in
theorem dnX9_accept_s24 {X : o_Cx} (hX : o_ok X) {d : Nat} {a0 : Nat} {τ24 : Int32 × Int32} {μ0 : o_Mem} {K : (Nat × (Int32 × Int32)) → o_Mem → Prop} {Q : Option Value → o_Mem → Prop} (h0 : o_is X a0 (.inl 9)) (h : o_Post (fX9_accept_s24 (o_rf X) a0 τ24 μ0) K) (kh : ∀ (τ24 : Int32 × Int32) (μ : o_Mem), K (24, τ24) μ → o_Ev X (d + 9) mX9_accept 24 [some (.ref (o_ad X a0)), none, some (.int τ24.1), some (.int τ24.2)] [] μ Q) (k199 : ∀ (τ24 : Int32 × Int32) (μ : o_Mem), K (199, τ24) μ → o_Ev X (d + 9) mX9_accept 199 [none, none, some (.int τ24.1), none] [] μ Q) : o_Ev X (d + 9) mX9_accept 24 [some (.ref (o_ad X a0)), none, some (.int τ24.1), some (.int τ24.2)] [] μ0 Q := by
  unfold fX9_accept_s24 at h
  refine s_iload_n (i := 3) dX9_accept_24 rfl rfl ?_
  refine s_sipush dX9_accept_25 kS_900 ?_
  refine s_icmp_gt (tgt := 199) dX9_accept_28 rfl (fun c1 => ?_) (fun c1 => ?_)
  · have h := o_if_t c1 h
    refine s_mask [false, false, true, false] (L' := [none, none, some (.int τ24.1), none]) rfl ?_
    exact k199 (τ24.1, 0) _ (o_ret h)
  · have h := o_if_f c1 h
    refine s_iload_n (i := 2) dX9_accept_31 rfl rfl ?_
    refine s_if_eq (tgt := 199) dX9_accept_32 rfl (fun c1 => ?_) (fun c1 => ?_)
    · have h := o_if_t c1 h
      refine s_mask [false, false, true, false] (L' := [none, none, some (.int τ24.1), none]) rfl ?_
      exact k199 (τ24.1, 0) _ (o_ret h)
    · have h := o_if_f c1 h
      refine s_aload_n (i := 0) dX9_accept_35 rfl rfl ?_
      refine s_getR hX h0 flX9_9 rfl dX9_accept_36 (fun (g1 : o_is X (o_rf X a0 0) (.inl 4)) => ?_)
      refine s_getI g1 flX9_34 rfl dX9_accept_39 ?_
      refine s_if_eq (tgt := 199) dX9_accept_42 rfl (fun c1 => ?_) (fun c1 => ?_)
      · have h := o_if_t c1 h
        refine s_mask [false, false, true, false] (L' := [none, none, some (.int τ24.1), none]) rfl ?_
        exact k199 (τ24.1, 0) _ (o_ret h)
      · have h := o_if_f c1 h
        refine s_aload_n (i := 0) dX9_accept_45 rfl rfl ?_
        refine s_getR hX h0 flX9_9 rfl dX9_accept_46 (fun (g2 : o_is X (o_rf X a0 0) (.inl 4)) => ?_)
        refine s_getI g2 flX9_38 rfl dX9_accept_49 ?_
        by_cases e0 : (μ0.1 (o_rf X a0 0) 8) = 0
        · have h := o_if_t e0 h
          refine s_table (off := 76) (tgt := 128) dX9_accept_52 rfl (by rw [e0]; decide) rfl ?_
          refine s_aload_n (i := 0) dX9_accept_128 rfl rfl ?_
          refine s_callVz (C := mX9_takeStrike) (As := []) (rest := []) (L0 := [some (.ref (o_ad X a0)), none]) hX h0 clX9_41 dX9_accept_129 rfl rfl (Nat.le_of_ble_eq_true rfl) (Nat.le_of_ble_eq_true rfl) (dnX9_takeStrike hX h0 (o_bdp h)) (fun r1 μ1 zr1 h => ?_)
          refine s_istore_n (i := 2) dX9_accept_132 rfl (Nat.le_of_ble_eq_true rfl) rfl ?_
          refine s_goto (tgt := 193) dX9_accept_133 rfl ?_
          refine s_iinc (v := (τ24.2 + 1)) dX9_accept_193 rfl rfl (Nat.le_of_ble_eq_true rfl) rfl ?_
          refine s_goto (tgt := 24) dX9_accept_196 rfl ?_
          refine s_mask [true, false, true, true] (L' := [some (.ref (o_ad X a0)), none, some (.int r1), some (.int (τ24.2 + 1))]) rfl ?_
          exact kh (r1, (τ24.2 + 1)) _ (o_ret h)
        have h := o_if_f e0 h
        by_cases e2 : (μ0.1 (o_rf X a0 0) 8) = 2
        · have h := o_if_t e2 h
          refine s_table (off := 84) (tgt := 136) dX9_accept_52 rfl (by rw [e2]; decide) rfl ?_
          refine s_aload_n (i := 0) dX9_accept_136 rfl rfl ?_
          refine s_callVz (C := mX9_takeHand) (As := []) (rest := []) (L0 := [some (.ref (o_ad X a0))]) hX h0 clX9_45 dX9_accept_137 rfl rfl (Nat.le_of_ble_eq_true rfl) (Nat.le_of_ble_eq_true rfl) (dnX9_takeHand hX h0 (o_bdp h)) (fun r2 μ2 zr2 h => ?_)
          refine s_istore_n (i := 2) dX9_accept_140 rfl (Nat.le_of_ble_eq_true rfl) rfl ?_
          refine s_goto (tgt := 193) dX9_accept_141 rfl ?_
          refine s_iinc (v := (τ24.2 + 1)) dX9_accept_193 rfl rfl (Nat.le_of_ble_eq_true rfl) rfl ?_
          refine s_goto (tgt := 24) dX9_accept_196 rfl ?_
          refine s_mask [true, false, true, true] (L' := [some (.ref (o_ad X a0)), none, some (.int r2), some (.int (τ24.2 + 1))]) rfl ?_
          exact kh (r2, (τ24.2 + 1)) _ (o_ret h)
        have h := o_if_f e2 h
        by_cases e3 : (μ0.1 (o_rf X a0 0) 8) = 3
        · have h := o_if_t e3 h
          refine s_table (off := 92) (tgt := 144) dX9_accept_52 rfl (by rw [e3]; decide) rfl ?_
          refine s_aload_n (i := 0) dX9_accept_144 rfl rfl ?_
          refine s_callVz (C := mX9_takePerson) (As := []) (rest := []) (L0 := [some (.ref (o_ad X a0)), none]) hX h0 clX9_48 dX9_accept_145 rfl rfl (Nat.le_of_ble_eq_true rfl) (Nat.le_of_ble_eq_true rfl) (dnX9_takePerson hX h0 (o_bdp h)) (fun r3 μ3 zr3 h => ?_)
          refine s_istore_n (i := 2) dX9_accept_148 rfl (Nat.le_of_ble_eq_true rfl) rfl ?_
          refine s_goto (tgt := 193) dX9_accept_149 rfl ?_
          refine s_iinc (v := (τ24.2 + 1)) dX9_accept_193 rfl rfl (Nat.le_of_ble_eq_true rfl) rfl ?_
          refine s_goto (tgt := 24) dX9_accept_196 rfl ?_
          refine s_mask [true, false, true, true] (L' := [some (.ref (o_ad X a0)), none, some (.int r3), some (.int (τ24.2 + 1))]) rfl ?_
          exact kh (r3, (τ24.2 + 1)) _ (o_ret h)
        have h := o_if_f e3 h
        by_cases e4 : (μ0.1 (o_rf X a0 0) 8) = 4
        · have h := o_if_t e4 h
          refine s_table (off := 100) (tgt := 152) dX9_accept_52 rfl (by rw [e4]; decide) rfl ?_
          refine s_aload_n (i := 0) dX9_accept_152 rfl rfl ?_
          refine s_callVz (C := mX9_takeLaw) (As := []) (rest := []) (L0 := [some (.ref (o_ad X a0)), none, none]) hX h0 clX9_51 dX9_accept_153 rfl rfl (Nat.le_of_ble_eq_true rfl) (Nat.le_of_ble_eq_true rfl) (dnX9_takeLaw hX h0 (o_bdp h)) (fun r4 μ4 zr4 h => ?_)
          refine s_istore_n (i := 2) dX9_accept_156 rfl (Nat.le_of_ble_eq_true rfl) rfl ?_
          refine s_goto (tgt := 193) dX9_accept_157 rfl ?_
          refine s_iinc (v := (τ24.2 + 1)) dX9_accept_193 rfl rfl (Nat.le_of_ble_eq_true rfl) rfl ?_
          refine s_goto (tgt := 24) dX9_accept_196 rfl ?_
          refine s_mask [true, false, true, true] (L' := [some (.ref (o_ad X a0)), none, some (.int r4), some (.int (τ24.2 + 1))]) rfl ?_
          exact kh (r4, (τ24.2 + 1)) _ (o_ret h)
        have h := o_if_f e4 h
        by_cases e10 : (μ0.1 (o_rf X a0 0) 8) = 10
        · have h := o_if_t e10 h
          refine s_table (off := 108) (tgt := 160) dX9_accept_52 rfl (by rw [e10]; decide) rfl ?_
          refine s_aload_n (i := 0) dX9_accept_160 rfl rfl ?_
          refine s_callVz (C := mX9_takeActs) (As := []) (rest := []) (L0 := [some (.ref (o_ad X a0)), none, none, none, none]) hX h0 clX9_54 dX9_accept_161 rfl rfl (Nat.le_of_ble_eq_true rfl) (Nat.le_of_ble_eq_true rfl) (dnX9_takeActs hX h0 (o_bdp h)) (fun r5 μ5 zr5 h => ?_)
          refine s_istore_n (i := 2) dX9_accept_164 rfl (Nat.le_of_ble_eq_true rfl) rfl ?_
          refine s_goto (tgt := 193) dX9_accept_165 rfl ?_
          refine s_iinc (v := (τ24.2 + 1)) dX9_accept_193 rfl rfl (Nat.le_of_ble_eq_true rfl) rfl ?_
          refine s_goto (tgt := 24) dX9_accept_196 rfl ?_
          refine s_mask [true, false, true, true] (L' := [some (.ref (o_ad X a0)), none, some (.int r5), some (.int (τ24.2 + 1))]) rfl ?_
          exact kh (r5, (τ24.2 + 1)) _ (o_ret h)
        have h := o_if_f e10 h
        by_cases e13 : (μ0.1 (o_rf X a0 0) 8) = 13
        · have h := o_if_t e13 h
          refine s_table (off := 116) (tgt := 168) dX9_accept_52 rfl (by rw [e13]; decide) rfl ?_
          refine s_aload_n (i := 0) dX9_accept_168 rfl rfl ?_
          refine s_callVz (C := mX9_takeLetter) (As := []) (rest := []) (L0 := [some (.ref (o_ad X a0)), none, none, none, none]) hX h0 clX9_57 dX9_accept_169 rfl rfl (Nat.le_of_ble_eq_true rfl) (Nat.le_of_ble_eq_true rfl) (dnX9_takeLetter hX h0 (o_bdp h)) (fun r6 μ6 zr6 h => ?_)
          refine s_istore_n (i := 2) dX9_accept_172 rfl (Nat.le_of_ble_eq_true rfl) rfl ?_
          refine s_goto (tgt := 193) dX9_accept_173 rfl ?_
          refine s_iinc (v := (τ24.2 + 1)) dX9_accept_193 rfl rfl (Nat.le_of_ble_eq_true rfl) rfl ?_
          refine s_goto (tgt := 24) dX9_accept_196 rfl ?_
          refine s_mask [true, false, true, true] (L' := [some (.ref (o_ad X a0)), none, some (.int r6), some (.int (τ24.2 + 1))]) rfl ?_
          exact kh (r6, (τ24.2 + 1)) _ (o_ret h)
        have h := o_if_f e13 h
        by_cases e14 : (μ0.1 (o_rf X a0 0) 8) = 14
        · have h := o_if_t e14 h
          refine s_table (off := 124) (tgt := 176) dX9_accept_52 rfl (by rw [e14]; decide) rfl ?_
          refine s_aload_n (i := 0) dX9_accept_176 rfl rfl ?_
          refine s_callVz (C := mX9_takeOdds) (As := []) (rest := []) (L0 := [some (.ref (o_ad X a0)), none]) hX h0 clX9_60 dX9_accept_177 rfl rfl (Nat.le_of_ble_eq_true rfl) (Nat.le_of_ble_eq_true rfl) (dnX9_takeOdds hX h0 (o_bdp h)) (fun r7 μ7 zr7 h => ?_)
          refine s_istore_n (i := 2) dX9_accept_180 rfl (Nat.le_of_ble_eq_true rfl) rfl ?_
          refine s_goto (tgt := 193) dX9_accept_181 rfl ?_
          refine s_iinc (v := (τ24.2 + 1)) dX9_accept_193 rfl rfl (Nat.le_of_ble_eq_true rfl) rfl ?_
          refine s_goto (tgt := 24) dX9_accept_196 rfl ?_
          refine s_mask [true, false, true, true] (L' := [some (.ref (o_ad X a0)), none, some (.int r7), some (.int (τ24.2 + 1))]) rfl ?_
          exact kh (r7, (τ24.2 + 1)) _ (o_ret h)
        have h := o_if_f e14 h
        have n0 := lv_neT (a := 0) e0 (by decide)
        have n2 := lv_neT (a := 2) e2 (by decide)
        have n3 := lv_neT (a := 3) e3 (by decide)
        have n4 := lv_neT (a := 4) e4 (by decide)
        have n10 := lv_neT (a := 10) e10 (by decide)
        have n13 := lv_neT (a := 13) e13 (by decide)
        have n14 := lv_neT (a := 14) e14 (by decide)
        have hz : ((μ0.1 (o_rf X a0 0) 8)).toInt < 0 ∨ 14 < ((μ0.1 (o_rf X a0 0) 8)).toInt ∨ ((μ0.1 (o_rf X a0 0) 8)).toInt = 1 ∨ ((μ0.1 (o_rf X a0 0) 8)).toInt = 5 ∨ ((μ0.1 (o_rf X a0 0) 8)).toInt = 6 ∨ ((μ0.1 (o_rf X a0 0) 8)).toInt = 7 ∨ ((μ0.1 (o_rf X a0 0) 8)).toInt = 8 ∨ ((μ0.1 (o_rf X a0 0) 8)).toInt = 9 ∨ ((μ0.1 (o_rf X a0 0) 8)).toInt = 11 ∨ ((μ0.1 (o_rf X a0 0) 8)).toInt = 12 := by omega
        refine s_table (off := 132) (tgt := 184) dX9_accept_52 rfl (by rcases hz with hz | hz | hz | hz | hz | hz | hz | hz | hz | hz; exact o_tabD (Or.inl hz); exact o_tabD (Or.inr hz); all_goals (rw [hz]; decide)) rfl ?_
        refine s_aload_n (i := 0) dX9_accept_184 rfl rfl ?_
        refine s_getR hX h0 flX9_9 rfl dX9_accept_185 (fun (g3 : o_is X (o_rf X a0 0) (.inl 4)) => ?_)
        refine s_iconst dX9_accept_188 kI_2 ?_
        refine s_callVz (C := mX4_fail) (As := [.int 2]) (rest := []) (L0 := [some (.ref (o_ad X (o_rf X a0 0))), some (.int 2)]) hX g3 clX9_63 dX9_accept_189 rfl rfl (Nat.le_of_ble_eq_true rfl) (Nat.le_of_ble_eq_true rfl) (dnX4_fail hX g3 (o_bdp h)) (fun r8 μ8 zr8 h => ?_)
        refine s_istore_n (i := 2) dX9_accept_192 rfl (Nat.le_of_ble_eq_true rfl) rfl ?_
        refine s_iinc (v := (τ24.2 + 1)) dX9_accept_193 rfl rfl (Nat.le_of_ble_eq_true rfl) rfl ?_
        refine s_goto (tgt := 24) dX9_accept_196 rfl ?_
        refine s_mask [true, false, true, true] (L' := [some (.ref (o_ad X a0)), none, some (.int r8), some (.int (τ24.2 + 1))]) rfl ?_
        exact kh (r8, (τ24.2 + 1)) _ (o_ret h)
set_option maxRecDepth 20000 in
theorem dnX9_accept {X : o_Cx} (hX : o_ok X) {d : Nat} {a0 : Nat} {x1 : Int32} {μ0 : o_Mem} {q : Int32 → o_Mem → Prop} (h0 : o_is X a0 (.inl 9)) (h : o_Post (fX9_accept (o_rf X) a0 x1 μ0) q) : o_Ev X (d + 9) mX9_accept 0 [some (.ref (o_ad X a0)), some (.int x1), none, none] [] μ0 (o_QZ q) := by
  unfold fX9_accept at h
  refine s_aload_n (i := 0) dX9_accept_0 rfl rfl ?_
  refine s_getR hX h0 flX9_9 rfl dX9_accept_1 (fun (g1 : o_is X (o_rf X a0 0) (.inl 4)) => ?_)
  refine s_iload_n (i := 1) dX9_accept_4 rfl rfl ?_
  refine s_callVu (C := mX4_begin) (As := [.int x1]) (rest := []) (L0 := [some (.ref (o_ad X (o_rf X a0 0))), some (.int x1)]) hX g1 clX9_19 dX9_accept_5 rfl rfl (Nat.le_of_ble_eq_true rfl) (Nat.le_of_ble_eq_true rfl) (dnX4_begin hX g1 (o_bdp h)) (fun _u μ1 h => ?_)
  refine s_aload_n (i := 0) dX9_accept_8 rfl rfl ?_
  refine s_getR hX h0 flX9_15 rfl dX9_accept_9 (fun (g2 : o_is X (o_rf X a0 1) (.inl 8)) => ?_)
  refine s_callVu (C := mX8_clear) (As := []) (rest := []) (L0 := [some (.ref (o_ad X (o_rf X a0 1)))]) hX g2 clX9_25 dX9_accept_12 rfl rfl (Nat.le_of_ble_eq_true rfl) (Nat.le_of_ble_eq_true rfl) (dnX8_clear hX g2 (o_bdp h)) (fun _u μ2 h => ?_)
  refine s_aload_n (i := 0) dX9_accept_15 rfl rfl ?_
  refine s_iconst dX9_accept_16 kI_0 ?_
  refine s_putZ hX h0 fwX9_30 rfl (Or.inl rfl) dX9_accept_17 (o_gen h (fun μ3 h => ?_))
  refine s_iconst dX9_accept_20 kI_1 ?_
  refine s_istore_n (i := 2) dX9_accept_21 rfl (Nat.le_of_ble_eq_true rfl) rfl ?_
  refine s_iconst dX9_accept_22 kI_0 ?_
  refine s_istore_n (i := 3) dX9_accept_23 rfl (Nat.le_of_ble_eq_true rfl) rfl ?_
  refine s_mask [true, false, true, true] (L' := [some (.ref (o_ad X a0)), none, some (.int 1), some (.int 0)]) rfl ?_
  refine o_lp_ev (fun τ24 => [some (.ref (o_ad X a0)), none, some (.int τ24.1), some (.int τ24.2)]) (fun τ24 μ _K h kv ke24 => dnX9_accept_s24 hX h0 h kv (fun τ24 μ4 h => ?_)) o_fuel (1, 0) μ3 (o_bdp h)
  · have h := o_if_t rfl (ke24 (199, τ24) μ4 (o_ne rfl) h)
    refine s_iload_n (i := 2) dX9_accept_199 rfl rfl ?_
    exact s_zreturn rfl (o_ck_c h) dX9_accept_200 ⟨_, rfl, o_ck_c h, o_ret (o_ck_k h)⟩
theorem dX10_begins_0 : decode cX10_begins 0 = .ok (.iload_n 0, 1) := by decide +kernel
theorem dX10_begins_1 : decode cX10_begins 1 = .ok (.bipush 15, 2) := by decide +kernel
theorem dX10_begins_3 : decode cX10_begins 3 = .ok (.if_icmp .eq 45, 3) := by decide +kernel
theorem dX10_begins_6 : decode cX10_begins 6 = .ok (.iload_n 0, 1) := by decide +kernel
theorem dX10_begins_7 : decode cX10_begins 7 = .ok (.bipush 16, 2) := by decide +kernel
theorem dX10_begins_9 : decode cX10_begins 9 = .ok (.if_icmp .eq 39, 3) := by decide +kernel
theorem dX10_begins_12 : decode cX10_begins 12 = .ok (.iload_n 0, 1) := by decide +kernel
theorem dX10_begins_13 : decode cX10_begins 13 = .ok (.bipush 17, 2) := by decide +kernel
theorem dX10_begins_15 : decode cX10_begins 15 = .ok (.if_icmp .eq 33, 3) := by decide +kernel
theorem dX10_begins_18 : decode cX10_begins 18 = .ok (.iload_n 0, 1) := by decide +kernel
theorem dX10_begins_19 : decode cX10_begins 19 = .ok (.bipush 18, 2) := by decide +kernel
theorem dX10_begins_21 : decode cX10_begins 21 = .ok (.if_icmp .eq 27, 3) := by decide +kernel
theorem dX10_begins_24 : decode cX10_begins 24 = .ok (.iload_n 0, 1) := by decide +kernel
theorem dX10_begins_25 : decode cX10_begins 25 = .ok (.bipush 19, 2) := by decide +kernel
theorem dX10_begins_27 : decode cX10_begins 27 = .ok (.if_icmp .eq 21, 3) := by decide +kernel
theorem dX10_begins_30 : decode cX10_begins 30 = .ok (.iload_n 0, 1) := by decide +kernel
theorem dX10_begins_31 : decode cX10_begins 31 = .ok (.bipush 20, 2) := by decide +kernel
theorem dX10_begins_33 : decode cX10_begins 33 = .ok (.if_icmp .eq 15, 3) := by decide +kernel
theorem dX10_begins_36 : decode cX10_begins 36 = .ok (.iload_n 0, 1) := by decide +kernel
theorem dX10_begins_37 : decode cX10_begins 37 = .ok (.bipush 24, 2) := by decide +kernel
theorem dX10_begins_39 : decode cX10_begins 39 = .ok (.if_icmp .eq 9, 3) := by decide +kernel
theorem dX10_begins_42 : decode cX10_begins 42 = .ok (.iload_n 0, 1) := by decide +kernel
theorem dX10_begins_43 : decode cX10_begins 43 = .ok (.bipush 26, 2) := by decide +kernel
theorem dX10_begins_45 : decode cX10_begins 45 = .ok (.if_icmp .ne 7, 3) := by decide +kernel
theorem dX10_begins_48 : decode cX10_begins 48 = .ok (.iconst 1, 1) := by decide +kernel
theorem dX10_begins_49 : decode cX10_begins 49 = .ok (.goto 4, 3) := by decide +kernel
theorem dX10_begins_52 : decode cX10_begins 52 = .ok (.iconst 0, 1) := by decide +kernel
theorem dX10_begins_53 : decode cX10_begins 53 = .ok (.ireturn, 1) := by decide +kernel
noncomputable def fX10_begins (rf : Nat → Nat → Nat) (x0 : Int32) (μ0 : o_Mem) : Option (Int32 × o_Mem) :=
  if x0 = 15 then (
    some (1, μ0))
  else (
    if x0 = 16 then (
      some (1, μ0))
    else (
      if x0 = 17 then (
        some (1, μ0))
      else (
        if x0 = 18 then (
          some (1, μ0))
        else (
          if x0 = 19 then (
            some (1, μ0))
          else (
            if x0 = 20 then (
              some (1, μ0))
            else (
              if x0 = 24 then (
                some (1, μ0))
              else (
                if x0 = 26 then (
                  some (1, μ0))
                else (
                  some (0, μ0)))))))))
set_option maxRecDepth 20000 in
theorem dnX10_begins {X : o_Cx} (hX : o_ok X) {d : Nat} {x0 : Int32} {μ0 : o_Mem} {q : Int32 → o_Mem → Prop}  (h : o_Post (fX10_begins (o_rf X) x0 μ0) q) : o_Ev X (d + 0) mX10_begins 0 [some (.int x0)] [] μ0 (o_QZ q) := by
  unfold fX10_begins at h
  refine s_iload_n (i := 0) dX10_begins_0 rfl rfl ?_
  refine s_bipush dX10_begins_1 kB_15 ?_
  refine s_icmp_eq (tgt := 48) dX10_begins_3 rfl (fun c1 => ?_) (fun c1 => ?_)
  · have h := o_if_t c1 h
    refine s_iconst dX10_begins_48 kI_1 ?_
    refine s_goto (tgt := 53) dX10_begins_49 rfl ?_
    exact s_zreturn rfl (Or.inr rfl) dX10_begins_53 ⟨_, rfl, (Or.inr rfl), o_ret h⟩
  · have h := o_if_f c1 h
    refine s_iload_n (i := 0) dX10_begins_6 rfl rfl ?_
    refine s_bipush dX10_begins_7 kB_16 ?_
    refine s_icmp_eq (tgt := 48) dX10_begins_9 rfl (fun c1 => ?_) (fun c1 => ?_)
    · have h := o_if_t c1 h
      refine s_iconst dX10_begins_48 kI_1 ?_
      refine s_goto (tgt := 53) dX10_begins_49 rfl ?_
      exact s_zreturn rfl (Or.inr rfl) dX10_begins_53 ⟨_, rfl, (Or.inr rfl), o_ret h⟩
    · have h := o_if_f c1 h
      refine s_iload_n (i := 0) dX10_begins_12 rfl rfl ?_
      refine s_bipush dX10_begins_13 kB_17 ?_
      refine s_icmp_eq (tgt := 48) dX10_begins_15 rfl (fun c1 => ?_) (fun c1 => ?_)
      · have h := o_if_t c1 h
        refine s_iconst dX10_begins_48 kI_1 ?_
        refine s_goto (tgt := 53) dX10_begins_49 rfl ?_
        exact s_zreturn rfl (Or.inr rfl) dX10_begins_53 ⟨_, rfl, (Or.inr rfl), o_ret h⟩
      · have h := o_if_f c1 h
        refine s_iload_n (i := 0) dX10_begins_18 rfl rfl ?_
        refine s_bipush dX10_begins_19 kB_18 ?_
        refine s_icmp_eq (tgt := 48) dX10_begins_21 rfl (fun c1 => ?_) (fun c1 => ?_)
        · have h := o_if_t c1 h
          refine s_iconst dX10_begins_48 kI_1 ?_
          refine s_goto (tgt := 53) dX10_begins_49 rfl ?_
          exact s_zreturn rfl (Or.inr rfl) dX10_begins_53 ⟨_, rfl, (Or.inr rfl), o_ret h⟩
        · have h := o_if_f c1 h
          refine s_iload_n (i := 0) dX10_begins_24 rfl rfl ?_
          refine s_bipush dX10_begins_25 kB_19 ?_
          refine s_icmp_eq (tgt := 48) dX10_begins_27 rfl (fun c1 => ?_) (fun c1 => ?_)
          · have h := o_if_t c1 h
            refine s_iconst dX10_begins_48 kI_1 ?_
            refine s_goto (tgt := 53) dX10_begins_49 rfl ?_
            exact s_zreturn rfl (Or.inr rfl) dX10_begins_53 ⟨_, rfl, (Or.inr rfl), o_ret h⟩
          · have h := o_if_f c1 h
            refine s_iload_n (i := 0) dX10_begins_30 rfl rfl ?_
            refine s_bipush dX10_begins_31 kB_20 ?_
            refine s_icmp_eq (tgt := 48) dX10_begins_33 rfl (fun c1 => ?_) (fun c1 => ?_)
            · have h := o_if_t c1 h
              refine s_iconst dX10_begins_48 kI_1 ?_
              refine s_goto (tgt := 53) dX10_begins_49 rfl ?_
              exact s_zreturn rfl (Or.inr rfl) dX10_begins_53 ⟨_, rfl, (Or.inr rfl), o_ret h⟩
            · have h := o_if_f c1 h
              refine s_iload_n (i := 0) dX10_begins_36 rfl rfl ?_
              refine s_bipush dX10_begins_37 kB_24 ?_
              refine s_icmp_eq (tgt := 48) dX10_begins_39 rfl (fun c1 => ?_) (fun c1 => ?_)
              · have h := o_if_t c1 h
                refine s_iconst dX10_begins_48 kI_1 ?_
                refine s_goto (tgt := 53) dX10_begins_49 rfl ?_
                exact s_zreturn rfl (Or.inr rfl) dX10_begins_53 ⟨_, rfl, (Or.inr rfl), o_ret h⟩
              · have h := o_if_f c1 h
                refine s_iload_n (i := 0) dX10_begins_42 rfl rfl ?_
                refine s_bipush dX10_begins_43 kB_26 ?_
                refine s_icmp_ne (tgt := 52) dX10_begins_45 rfl (fun c1 => ?_) (fun c1 => ?_)
                · have h := o_if_f c1 h
                  refine s_iconst dX10_begins_52 kI_0 ?_
                  exact s_zreturn rfl (Or.inl rfl) dX10_begins_53 ⟨_, rfl, (Or.inl rfl), o_ret h⟩
                · have h := o_if_t c1 h
                  refine s_iconst dX10_begins_48 kI_1 ?_
                  refine s_goto (tgt := 53) dX10_begins_49 rfl ?_
                  exact s_zreturn rfl (Or.inr rfl) dX10_begins_53 ⟨_, rfl, (Or.inr rfl), o_ret h⟩
theorem dX10_beginStep_0 : decode cX10_beginStep 0 = .ok (.iload_n 1, 1) := by decide +kernel
theorem dX10_beginStep_1 : decode cX10_beginStep 1 = .ok (.bipush 20, 2) := by decide +kernel
theorem dX10_beginStep_3 : decode cX10_beginStep 3 = .ok (.if_icmp .eq 9, 3) := by decide +kernel
theorem dX10_beginStep_6 : decode cX10_beginStep 6 = .ok (.iload_n 1, 1) := by decide +kernel
theorem dX10_beginStep_7 : decode cX10_beginStep 7 = .ok (.bipush 24, 2) := by decide +kernel
theorem dX10_beginStep_9 : decode cX10_beginStep 9 = .ok (.if_icmp .ne 7, 3) := by decide +kernel
theorem dX10_beginStep_12 : decode cX10_beginStep 12 = .ok (.iconst 1, 1) := by decide +kernel
theorem dX10_beginStep_13 : decode cX10_beginStep 13 = .ok (.goto 4, 3) := by decide +kernel
theorem dX10_beginStep_16 : decode cX10_beginStep 16 = .ok (.iconst 0, 1) := by decide +kernel
theorem dX10_beginStep_17 : decode cX10_beginStep 17 = .ok (.istore_n 2, 1) := by decide +kernel
theorem dX10_beginStep_18 : decode cX10_beginStep 18 = .ok (.iload_n 1, 1) := by decide +kernel
theorem dX10_beginStep_19 : decode cX10_beginStep 19 = .ok (.invokestatic 82, 3) := by decide +kernel
theorem dX10_beginStep_22 : decode cX10_beginStep 22 = .ok (.ifCond .ne 12, 3) := by decide +kernel
theorem dX10_beginStep_25 : decode cX10_beginStep 25 = .ok (.aload_n 0, 1) := by decide +kernel
theorem dX10_beginStep_26 : decode cX10_beginStep 26 = .ok (.getfield 15, 3) := by decide +kernel
theorem dX10_beginStep_29 : decode cX10_beginStep 29 = .ok (.iconst 2, 1) := by decide +kernel
theorem dX10_beginStep_30 : decode cX10_beginStep 30 = .ok (.invokevirtual 66, 3) := by decide +kernel
theorem dX10_beginStep_33 : decode cX10_beginStep 33 = .ok (.ireturn, 1) := by decide +kernel
theorem dX10_beginStep_34 : decode cX10_beginStep 34 = .ok (.aload_n 0, 1) := by decide +kernel
theorem dX10_beginStep_35 : decode cX10_beginStep 35 = .ok (.getfield 23, 3) := by decide +kernel
theorem dX10_beginStep_38 : decode cX10_beginStep 38 = .ok (.getfield 85, 3) := by decide +kernel
theorem dX10_beginStep_41 : decode cX10_beginStep 41 = .ok (.bipush 30, 2) := by decide +kernel
theorem dX10_beginStep_43 : decode cX10_beginStep 43 = .ok (.if_icmp .lt 13, 3) := by decide +kernel
theorem dX10_beginStep_46 : decode cX10_beginStep 46 = .ok (.aload_n 0, 1) := by decide +kernel
theorem dX10_beginStep_47 : decode cX10_beginStep 47 = .ok (.getfield 15, 3) := by decide +kernel
theorem dX10_beginStep_50 : decode cX10_beginStep 50 = .ok (.bipush 6, 2) := by decide +kernel
theorem dX10_beginStep_52 : decode cX10_beginStep 52 = .ok (.invokevirtual 66, 3) := by decide +kernel
theorem dX10_beginStep_55 : decode cX10_beginStep 55 = .ok (.ireturn, 1) := by decide +kernel
theorem dX10_beginStep_56 : decode cX10_beginStep 56 = .ok (.iload_n 2, 1) := by decide +kernel
theorem dX10_beginStep_57 : decode cX10_beginStep 57 = .ok (.ifCond .eq 21, 3) := by decide +kernel
theorem dX10_beginStep_60 : decode cX10_beginStep 60 = .ok (.aload_n 0, 1) := by decide +kernel
theorem dX10_beginStep_61 : decode cX10_beginStep 61 = .ok (.getfield 42, 3) := by decide +kernel
theorem dX10_beginStep_64 : decode cX10_beginStep 64 = .ok (.iconst 3, 1) := by decide +kernel
theorem dX10_beginStep_65 : decode cX10_beginStep 65 = .ok (.if_icmp .lt 13, 3) := by decide +kernel
theorem dX10_beginStep_68 : decode cX10_beginStep 68 = .ok (.aload_n 0, 1) := by decide +kernel
theorem dX10_beginStep_69 : decode cX10_beginStep 69 = .ok (.getfield 15, 3) := by decide +kernel
theorem dX10_beginStep_72 : decode cX10_beginStep 72 = .ok (.bipush 7, 2) := by decide +kernel
theorem dX10_beginStep_74 : decode cX10_beginStep 74 = .ok (.invokevirtual 66, 3) := by decide +kernel
theorem dX10_beginStep_77 : decode cX10_beginStep 77 = .ok (.ireturn, 1) := by decide +kernel
theorem dX10_beginStep_78 : decode cX10_beginStep 78 = .ok (.iload_n 2, 1) := by decide +kernel
theorem dX10_beginStep_79 : decode cX10_beginStep 79 = .ok (.ifCond .eq 29, 3) := by decide +kernel
theorem dX10_beginStep_82 : decode cX10_beginStep 82 = .ok (.aload_n 0, 1) := by decide +kernel
theorem dX10_beginStep_83 : decode cX10_beginStep 83 = .ok (.getfield 9, 3) := by decide +kernel
theorem dX10_beginStep_86 : decode cX10_beginStep 86 = .ok (.aload_n 0, 1) := by decide +kernel
theorem dX10_beginStep_87 : decode cX10_beginStep 87 = .ok (.getfield 42, 3) := by decide +kernel
theorem dX10_beginStep_90 : decode cX10_beginStep 90 = .ok (.aload_n 0, 1) := by decide +kernel
theorem dX10_beginStep_91 : decode cX10_beginStep 91 = .ok (.getfield 23, 3) := by decide +kernel
theorem dX10_beginStep_94 : decode cX10_beginStep 94 = .ok (.getfield 72, 3) := by decide +kernel
theorem dX10_beginStep_97 : decode cX10_beginStep 97 = .ok (.iastore, 1) := by decide +kernel
theorem dX10_beginStep_98 : decode cX10_beginStep 98 = .ok (.aload_n 0, 1) := by decide +kernel
theorem dX10_beginStep_99 : decode cX10_beginStep 99 = .ok (.dup, 1) := by decide +kernel
theorem dX10_beginStep_100 : decode cX10_beginStep 100 = .ok (.getfield 42, 3) := by decide +kernel
theorem dX10_beginStep_103 : decode cX10_beginStep 103 = .ok (.iconst 1, 1) := by decide +kernel
theorem dX10_beginStep_104 : decode cX10_beginStep 104 = .ok (.iadd, 1) := by decide +kernel
theorem dX10_beginStep_105 : decode cX10_beginStep 105 = .ok (.putfield 42, 3) := by decide +kernel
theorem dX10_beginStep_108 : decode cX10_beginStep 108 = .ok (.aload_n 0, 1) := by decide +kernel
theorem dX10_beginStep_109 : decode cX10_beginStep 109 = .ok (.getfield 23, 3) := by decide +kernel
theorem dX10_beginStep_112 : decode cX10_beginStep 112 = .ok (.dup, 1) := by decide +kernel
theorem dX10_beginStep_113 : decode cX10_beginStep 113 = .ok (.getfield 85, 3) := by decide +kernel
theorem dX10_beginStep_116 : decode cX10_beginStep 116 = .ok (.iconst 1, 1) := by decide +kernel
theorem dX10_beginStep_117 : decode cX10_beginStep 117 = .ok (.iadd, 1) := by decide +kernel
theorem dX10_beginStep_118 : decode cX10_beginStep 118 = .ok (.putfield 85, 3) := by decide +kernel
theorem dX10_beginStep_121 : decode cX10_beginStep 121 = .ok (.aload_n 0, 1) := by decide +kernel
theorem dX10_beginStep_122 : decode cX10_beginStep 122 = .ok (.getfield 15, 3) := by decide +kernel
theorem dX10_beginStep_125 : decode cX10_beginStep 125 = .ok (.invokevirtual 79, 3) := by decide +kernel
theorem dX10_beginStep_128 : decode cX10_beginStep 128 = .ok (.iconst 1, 1) := by decide +kernel
theorem dX10_beginStep_129 : decode cX10_beginStep 129 = .ok (.ireturn, 1) := by decide +kernel
noncomputable def fX10_beginStep_j108 (rf : Nat → Nat → Nat) (a0 : Nat) (μ0 : o_Mem) : Option (Int32 × o_Mem) :=
  o_seq (o_wI μ0 (rf a0 2) 1 ((μ0.1 (rf a0 2) 1) + 1)) fun μ1 =>
  o_bd (fX4_next rf (rf a0 0) μ1) fun _u μ2 =>
  some (1, μ2)
noncomputable def fX10_beginStep_j78 (rf : Nat → Nat → Nat) (a0 : Nat) (x2 : Int32) (μ0 : o_Mem) : Option (Int32 × o_Mem) :=
  if x2 = 0 then (
    fX10_beginStep_j108 rf a0 μ0)
  else (
    o_ck (0 ≤ ((μ0.1 a0 4)).toInt ∧ ((μ0.1 a0 4)).toInt < 3) <|
    o_seq (o_wI μ0 (rf a0 3) (((μ0.1 a0 4)).toNatClampNeg) (μ0.1 (rf a0 2) 2)) fun μ1 =>
    o_seq (o_wI μ1 a0 4 ((μ1.1 a0 4) + 1)) fun μ2 =>
    fX10_beginStep_j108 rf a0 μ2)
noncomputable def fX10_beginStep_j17 (rf : Nat → Nat → Nat) (a0 : Nat) (x1 : Int32) (y0 : Int32) (μ0 : o_Mem) : Option (Int32 × o_Mem) :=
  o_bd (fX10_begins rf x1 μ0) fun r1 μ1 =>
  if r1 = 0 then (
    o_bd (fX4_fail rf (rf a0 0) 2 μ1) fun r4 μ4 =>
    some (r4, μ4))
  else (
    if (μ1.1 (rf a0 2) 1) < 30 then (
      if y0 = 0 then (
        fX10_beginStep_j78 rf a0 y0 μ1)
      else (
        if (μ1.1 a0 4) < 3 then (
          fX10_beginStep_j78 rf a0 y0 μ1)
        else (
          o_bd (fX4_fail rf (rf a0 0) 7 μ1) fun r2 μ2 =>
          some (r2, μ2))))
    else (
      o_bd (fX4_fail rf (rf a0 0) 6 μ1) fun r3 μ3 =>
      some (r3, μ3)))
noncomputable def fX10_beginStep_j12 (rf : Nat → Nat → Nat) (a0 : Nat) (x1 : Int32) (μ0 : o_Mem) : Option (Int32 × o_Mem) :=
  fX10_beginStep_j17 rf a0 x1 1 μ0
noncomputable def fX10_beginStep (rf : Nat → Nat → Nat) (a0 : Nat) (x1 : Int32) (μ0 : o_Mem) : Option (Int32 × o_Mem) :=
  if x1 = 20 then (
    fX10_beginStep_j12 rf a0 x1 μ0)
  else (
    if x1 = 24 then (
      fX10_beginStep_j12 rf a0 x1 μ0)
    else (
      fX10_beginStep_j17 rf a0 x1 0 μ0))
set_option maxRecDepth 20000 in
theorem dnX10_beginStep_j108 {X : o_Cx} (hX : o_ok X) {d : Nat} {a0 : Nat} {μ0 : o_Mem} {q : Int32 → o_Mem → Prop} (h0 : o_is X a0 (.inl 10)) (h : o_Post (fX10_beginStep_j108 (o_rf X) a0 μ0) q) : o_Ev X (d + 6) mX10_beginStep 108 [some (.ref (o_ad X a0)), none, none] [] μ0 (o_QZ q) := by
  unfold fX10_beginStep_j108 at h
  refine s_aload_n (i := 0) dX10_beginStep_108 rfl rfl ?_
  refine s_getR hX h0 flX10_23 rfl dX10_beginStep_109 (fun (g1 : o_is X (o_rf X a0 2) (.inl 3)) => ?_)
  refine s_dup dX10_beginStep_112 rfl ?_
  refine s_getI g1 flX10_85 rfl dX10_beginStep_113 ?_
  refine s_iconst dX10_beginStep_116 kI_1 ?_
  refine s_iadd dX10_beginStep_117 ?_
  refine s_putI hX g1 fwX10_85 rfl dX10_beginStep_118 (o_gen h (fun μ1 h => ?_))
  refine s_aload_n (i := 0) dX10_beginStep_121 rfl rfl ?_
  refine s_getR hX h0 flX10_15 rfl dX10_beginStep_122 (fun (g2 : o_is X (o_rf X a0 0) (.inl 4)) => ?_)
  refine s_callVu (C := mX4_next) (As := []) (rest := []) (L0 := [some (.ref (o_ad X (o_rf X a0 0)))]) hX g2 clX10_79 dX10_beginStep_125 rfl rfl (Nat.le_of_ble_eq_true rfl) (Nat.le_of_ble_eq_true rfl) (dnX4_next hX g2 (o_bdp h)) (fun _u μ2 h => ?_)
  refine s_iconst dX10_beginStep_128 kI_1 ?_
  exact s_zreturn rfl (Or.inr rfl) dX10_beginStep_129 ⟨_, rfl, (Or.inr rfl), o_ret h⟩
set_option maxRecDepth 20000 in
theorem dnX10_beginStep_j78 {X : o_Cx} (hX : o_ok X) {d : Nat} {a0 : Nat} {x2 : Int32} {μ0 : o_Mem} {q : Int32 → o_Mem → Prop} (h0 : o_is X a0 (.inl 10)) (h : o_Post (fX10_beginStep_j78 (o_rf X) a0 x2 μ0) q) : o_Ev X (d + 6) mX10_beginStep 78 [some (.ref (o_ad X a0)), none, some (.int x2)] [] μ0 (o_QZ q) := by
  unfold fX10_beginStep_j78 at h
  refine s_iload_n (i := 2) dX10_beginStep_78 rfl rfl ?_
  refine s_if_eq (tgt := 108) dX10_beginStep_79 rfl (fun c1 => ?_) (fun c1 => ?_)
  · have h := o_if_t c1 h
    refine s_mask [true, false, false] (L' := [some (.ref (o_ad X a0)), none, none]) rfl ?_
    exact dnX10_beginStep_j108 hX h0 h
  · have h := o_if_f c1 h
    refine s_aload_n (i := 0) dX10_beginStep_82 rfl rfl ?_
    refine s_getR hX h0 flX10_9 rfl dX10_beginStep_83 (fun (g1 : o_is X (o_rf X a0 3) (.inr (0, 3))) => ?_)
    refine s_aload_n (i := 0) dX10_beginStep_86 rfl rfl ?_
    refine s_getI h0 flX10_42 rfl dX10_beginStep_87 ?_
    refine s_aload_n (i := 0) dX10_beginStep_90 rfl rfl ?_
    refine s_getR hX h0 flX10_23 rfl dX10_beginStep_91 (fun (g2 : o_is X (o_rf X a0 2) (.inl 3)) => ?_)
    refine s_getI g2 flX10_72 rfl dX10_beginStep_94 ?_
    have hc := o_ck_c h
    have h := o_ck_k h
    refine s_iastK hX g1 hc rfl dX10_beginStep_97 (o_gen h (fun μ1 h => ?_))
    refine s_aload_n (i := 0) dX10_beginStep_98 rfl rfl ?_
    refine s_dup dX10_beginStep_99 rfl ?_
    refine s_getI h0 flX10_42 rfl dX10_beginStep_100 ?_
    refine s_iconst dX10_beginStep_103 kI_1 ?_
    refine s_iadd dX10_beginStep_104 ?_
    refine s_putI hX h0 fwX10_42 rfl dX10_beginStep_105 (o_gen h (fun μ2 h => ?_))
    refine s_mask [true, false, false] (L' := [some (.ref (o_ad X a0)), none, none]) rfl ?_
    exact dnX10_beginStep_j108 hX h0 h
set_option maxRecDepth 20000 in
theorem dnX10_beginStep_j17 {X : o_Cx} (hX : o_ok X) {d : Nat} {a0 : Nat} {x1 : Int32} {y0 : Int32} {μ0 : o_Mem} {q : Int32 → o_Mem → Prop} (h0 : o_is X a0 (.inl 10)) (h : o_Post (fX10_beginStep_j17 (o_rf X) a0 x1 y0 μ0) q) : o_Ev X (d + 6) mX10_beginStep 17 [some (.ref (o_ad X a0)), some (.int x1), none] [.int y0] μ0 (o_QZ q) := by
  unfold fX10_beginStep_j17 at h
  refine s_istore_n (i := 2) dX10_beginStep_17 rfl (Nat.le_of_ble_eq_true rfl) rfl ?_
  refine s_iload_n (i := 1) dX10_beginStep_18 rfl rfl ?_
  refine s_callSz (C := mX10_begins) (As := [.int x1]) (rest := []) (L0 := [some (.int x1)]) clX10_82 dX10_beginStep_19 rfl rfl (Nat.le_of_ble_eq_true rfl) (Nat.le_of_ble_eq_true rfl) (dnX10_begins hX  (o_bdp h)) (fun r1 μ1 zr1 h => ?_)
  refine s_if_ne (tgt := 34) dX10_beginStep_22 rfl (fun c1 => ?_) (fun c1 => ?_)
  · have h := o_if_f c1 h
    refine s_aload_n (i := 0) dX10_beginStep_34 rfl rfl ?_
    refine s_getR hX h0 flX10_23 rfl dX10_beginStep_35 (fun (g1 : o_is X (o_rf X a0 2) (.inl 3)) => ?_)
    refine s_getI g1 flX10_85 rfl dX10_beginStep_38 ?_
    refine s_bipush dX10_beginStep_41 kB_30 ?_
    refine s_icmp_lt (tgt := 56) dX10_beginStep_43 rfl (fun c1 => ?_) (fun c1 => ?_)
    · have h := o_if_t c1 h
      refine s_iload_n (i := 2) dX10_beginStep_56 rfl rfl ?_
      refine s_if_eq (tgt := 78) dX10_beginStep_57 rfl (fun c1 => ?_) (fun c1 => ?_)
      · have h := o_if_t c1 h
        refine s_mask [true, false, true] (L' := [some (.ref (o_ad X a0)), none, some (.int y0)]) rfl ?_
        exact dnX10_beginStep_j78 hX h0 h
      · have h := o_if_f c1 h
        refine s_aload_n (i := 0) dX10_beginStep_60 rfl rfl ?_
        refine s_getI h0 flX10_42 rfl dX10_beginStep_61 ?_
        refine s_iconst dX10_beginStep_64 kI_3 ?_
        refine s_icmp_lt (tgt := 78) dX10_beginStep_65 rfl (fun c1 => ?_) (fun c1 => ?_)
        · have h := o_if_t c1 h
          refine s_mask [true, false, true] (L' := [some (.ref (o_ad X a0)), none, some (.int y0)]) rfl ?_
          exact dnX10_beginStep_j78 hX h0 h
        · have h := o_if_f c1 h
          refine s_aload_n (i := 0) dX10_beginStep_68 rfl rfl ?_
          refine s_getR hX h0 flX10_15 rfl dX10_beginStep_69 (fun (g2 : o_is X (o_rf X a0 0) (.inl 4)) => ?_)
          refine s_bipush dX10_beginStep_72 kB_7 ?_
          refine s_callVz (C := mX4_fail) (As := [.int 7]) (rest := []) (L0 := [some (.ref (o_ad X (o_rf X a0 0))), some (.int 7)]) hX g2 clX10_66 dX10_beginStep_74 rfl rfl (Nat.le_of_ble_eq_true rfl) (Nat.le_of_ble_eq_true rfl) (dnX4_fail hX g2 (o_bdp h)) (fun r2 μ2 zr2 h => ?_)
          exact s_zreturn rfl zr2 dX10_beginStep_77 ⟨_, rfl, zr2, o_ret h⟩
    · have h := o_if_f c1 h
      refine s_aload_n (i := 0) dX10_beginStep_46 rfl rfl ?_
      refine s_getR hX h0 flX10_15 rfl dX10_beginStep_47 (fun (g3 : o_is X (o_rf X a0 0) (.inl 4)) => ?_)
      refine s_bipush dX10_beginStep_50 kB_6 ?_
      refine s_callVz (C := mX4_fail) (As := [.int 6]) (rest := []) (L0 := [some (.ref (o_ad X (o_rf X a0 0))), some (.int 6)]) hX g3 clX10_66 dX10_beginStep_52 rfl rfl (Nat.le_of_ble_eq_true rfl) (Nat.le_of_ble_eq_true rfl) (dnX4_fail hX g3 (o_bdp h)) (fun r3 μ3 zr3 h => ?_)
      exact s_zreturn rfl zr3 dX10_beginStep_55 ⟨_, rfl, zr3, o_ret h⟩
  · have h := o_if_t c1 h
    refine s_aload_n (i := 0) dX10_beginStep_25 rfl rfl ?_
    refine s_getR hX h0 flX10_15 rfl dX10_beginStep_26 (fun (g4 : o_is X (o_rf X a0 0) (.inl 4)) => ?_)
    refine s_iconst dX10_beginStep_29 kI_2 ?_
    refine s_callVz (C := mX4_fail) (As := [.int 2]) (rest := []) (L0 := [some (.ref (o_ad X (o_rf X a0 0))), some (.int 2)]) hX g4 clX10_66 dX10_beginStep_30 rfl rfl (Nat.le_of_ble_eq_true rfl) (Nat.le_of_ble_eq_true rfl) (dnX4_fail hX g4 (o_bdp h)) (fun r4 μ4 zr4 h => ?_)
    exact s_zreturn rfl zr4 dX10_beginStep_33 ⟨_, rfl, zr4, o_ret h⟩
set_option maxRecDepth 20000 in
theorem dnX10_beginStep_j12 {X : o_Cx} (hX : o_ok X) {d : Nat} {a0 : Nat} {x1 : Int32} {μ0 : o_Mem} {q : Int32 → o_Mem → Prop} (h0 : o_is X a0 (.inl 10)) (h : o_Post (fX10_beginStep_j12 (o_rf X) a0 x1 μ0) q) : o_Ev X (d + 6) mX10_beginStep 12 [some (.ref (o_ad X a0)), some (.int x1), none] [] μ0 (o_QZ q) := by
  unfold fX10_beginStep_j12 at h
  refine s_iconst dX10_beginStep_12 kI_1 ?_
  refine s_goto (tgt := 17) dX10_beginStep_13 rfl ?_
  refine s_mask [true, true, false] (L' := [some (.ref (o_ad X a0)), some (.int x1), none]) rfl ?_
  exact dnX10_beginStep_j17 hX h0 h
set_option maxRecDepth 20000 in
theorem dnX10_beginStep {X : o_Cx} (hX : o_ok X) {d : Nat} {a0 : Nat} {x1 : Int32} {μ0 : o_Mem} {q : Int32 → o_Mem → Prop} (h0 : o_is X a0 (.inl 10)) (h : o_Post (fX10_beginStep (o_rf X) a0 x1 μ0) q) : o_Ev X (d + 6) mX10_beginStep 0 [some (.ref (o_ad X a0)), some (.int x1), none] [] μ0 (o_QZ q) := by
  unfold fX10_beginStep at h
  refine s_iload_n (i := 1) dX10_beginStep_0 rfl rfl ?_
  refine s_bipush dX10_beginStep_1 kB_20 ?_
  refine s_icmp_eq (tgt := 12) dX10_beginStep_3 rfl (fun c1 => ?_) (fun c1 => ?_)
  · have h := o_if_t c1 h
    refine s_mask [true, true, false] (L' := [some (.ref (o_ad X a0)), some (.int x1), none]) rfl ?_
    exact dnX10_beginStep_j12 hX h0 h
  · have h := o_if_f c1 h
    refine s_iload_n (i := 1) dX10_beginStep_6 rfl rfl ?_
    refine s_bipush dX10_beginStep_7 kB_24 ?_
    refine s_icmp_ne (tgt := 16) dX10_beginStep_9 rfl (fun c1 => ?_) (fun c1 => ?_)
    · have h := o_if_f c1 h
      refine s_iconst dX10_beginStep_16 kI_0 ?_
      refine s_mask [true, true, false] (L' := [some (.ref (o_ad X a0)), some (.int x1), none]) rfl ?_
      exact dnX10_beginStep_j17 hX h0 h
    · have h := o_if_t c1 h
      refine s_mask [true, true, false] (L' := [some (.ref (o_ad X a0)), some (.int x1), none]) rfl ?_
      exact dnX10_beginStep_j12 hX h0 h
theorem dX10_takeNumber_0 : decode cX10_takeNumber 0 = .ok (.aload_n 0, 1) := by decide +kernel
theorem dX10_takeNumber_1 : decode cX10_takeNumber 1 = .ok (.getfield 15, 3) := by decide +kernel
theorem dX10_takeNumber_4 : decode cX10_takeNumber 4 = .ok (.iconst 1, 1) := by decide +kernel
theorem dX10_takeNumber_5 : decode cX10_takeNumber 5 = .ok (.iload_n 2, 1) := by decide +kernel
theorem dX10_takeNumber_6 : decode cX10_takeNumber 6 = .ok (.invokevirtual 98, 3) := by decide +kernel
theorem dX10_takeNumber_9 : decode cX10_takeNumber 9 = .ok (.istore_n 3, 1) := by decide +kernel
theorem dX10_takeNumber_10 : decode cX10_takeNumber 10 = .ok (.aload_n 0, 1) := by decide +kernel
theorem dX10_takeNumber_11 : decode cX10_takeNumber 11 = .ok (.getfield 23, 3) := by decide +kernel
theorem dX10_takeNumber_14 : decode cX10_takeNumber 14 = .ok (.iload_n 1, 1) := by decide +kernel
theorem dX10_takeNumber_15 : decode cX10_takeNumber 15 = .ok (.iload_n 3, 1) := by decide +kernel
theorem dX10_takeNumber_16 : decode cX10_takeNumber 16 = .ok (.iconst 0, 1) := by decide +kernel
theorem dX10_takeNumber_17 : decode cX10_takeNumber 17 = .ok (.iconst 0, 1) := by decide +kernel
theorem dX10_takeNumber_18 : decode cX10_takeNumber 18 = .ok (.invokevirtual 75, 3) := by decide +kernel
theorem dX10_takeNumber_21 : decode cX10_takeNumber 21 = .ok (.iload_n 3, 1) := by decide +kernel
theorem dX10_takeNumber_22 : decode cX10_takeNumber 22 = .ok (.iconst (-1), 1) := by decide +kernel
theorem dX10_takeNumber_23 : decode cX10_takeNumber 23 = .ok (.if_icmp .eq 7, 3) := by decide +kernel
theorem dX10_takeNumber_26 : decode cX10_takeNumber 26 = .ok (.iconst 1, 1) := by decide +kernel
theorem dX10_takeNumber_27 : decode cX10_takeNumber 27 = .ok (.goto 4, 3) := by decide +kernel
theorem dX10_takeNumber_30 : decode cX10_takeNumber 30 = .ok (.iconst 0, 1) := by decide +kernel
theorem dX10_takeNumber_31 : decode cX10_takeNumber 31 = .ok (.ireturn, 1) := by decide +kernel
noncomputable def fX10_takeNumber (rf : Nat → Nat → Nat) (a0 : Nat) (x1 : Int32) (x2 : Int32) (μ0 : o_Mem) : Option (Int32 × o_Mem) :=
  o_bd (fX4_wantNumber rf (rf a0 0) 1 x2 μ0) fun r1 μ1 =>
  o_bd (fX3_add rf (rf a0 2) x1 r1 0 0 μ1) fun _u μ2 =>
  if r1 = (-1) then (
    some (0, μ2))
  else (
    some (1, μ2))
set_option maxRecDepth 20000 in
theorem dnX10_takeNumber {X : o_Cx} (hX : o_ok X) {d : Nat} {a0 : Nat} {x1 : Int32} {x2 : Int32} {μ0 : o_Mem} {q : Int32 → o_Mem → Prop} (h0 : o_is X a0 (.inl 10)) (h : o_Post (fX10_takeNumber (o_rf X) a0 x1 x2 μ0) q) : o_Ev X (d + 7) mX10_takeNumber 0 [some (.ref (o_ad X a0)), some (.int x1), some (.int x2), none] [] μ0 (o_QZ q) := by
  unfold fX10_takeNumber at h
  refine s_aload_n (i := 0) dX10_takeNumber_0 rfl rfl ?_
  refine s_getR hX h0 flX10_15 rfl dX10_takeNumber_1 (fun (g1 : o_is X (o_rf X a0 0) (.inl 4)) => ?_)
  refine s_iconst dX10_takeNumber_4 kI_1 ?_
  refine s_iload_n (i := 2) dX10_takeNumber_5 rfl rfl ?_
  refine s_callVi (C := mX4_wantNumber) (As := [.int 1, .int x2]) (rest := []) (L0 := [some (.ref (o_ad X (o_rf X a0 0))), some (.int 1), some (.int x2), none]) hX g1 clX10_98 dX10_takeNumber_6 rfl rfl (Nat.le_of_ble_eq_true rfl) (Nat.le_of_ble_eq_true rfl) (dnX4_wantNumber hX g1 (o_bdp h)) (fun r1 μ1 h => ?_)
  refine s_istore_n (i := 3) dX10_takeNumber_9 rfl (Nat.le_of_ble_eq_true rfl) rfl ?_
  refine s_aload_n (i := 0) dX10_takeNumber_10 rfl rfl ?_
  refine s_getR hX h0 flX10_23 rfl dX10_takeNumber_11 (fun (g2 : o_is X (o_rf X a0 2) (.inl 3)) => ?_)
  refine s_iload_n (i := 1) dX10_takeNumber_14 rfl rfl ?_
  refine s_iload_n (i := 3) dX10_takeNumber_15 rfl rfl ?_
  refine s_iconst dX10_takeNumber_16 kI_0 ?_
  refine s_iconst dX10_takeNumber_17 kI_0 ?_
  refine s_callVu (C := mX3_add) (As := [.int x1, .int r1, .int 0, .int 0]) (rest := []) (L0 := [some (.ref (o_ad X (o_rf X a0 2))), some (.int x1), some (.int r1), some (.int 0), some (.int 0)]) hX g2 clX10_75 dX10_takeNumber_18 rfl rfl (Nat.le_of_ble_eq_true rfl) (Nat.le_of_ble_eq_true rfl) (dnX3_add hX g2 (o_bdp h)) (fun _u μ2 h => ?_)
  refine s_iload_n (i := 3) dX10_takeNumber_21 rfl rfl ?_
  refine s_iconst dX10_takeNumber_22 kI_m1 ?_
  refine s_icmp_eq (tgt := 30) dX10_takeNumber_23 rfl (fun c1 => ?_) (fun c1 => ?_)
  · have h := o_if_t c1 h
    refine s_iconst dX10_takeNumber_30 kI_0 ?_
    exact s_zreturn rfl (Or.inl rfl) dX10_takeNumber_31 ⟨_, rfl, (Or.inl rfl), o_ret h⟩
  · have h := o_if_f c1 h
    refine s_iconst dX10_takeNumber_26 kI_1 ?_
    refine s_goto (tgt := 31) dX10_takeNumber_27 rfl ?_
    exact s_zreturn rfl (Or.inr rfl) dX10_takeNumber_31 ⟨_, rfl, (Or.inr rfl), o_ret h⟩
theorem dX10_takePost_0 : decode cX10_takePost 0 = .ok (.aload_n 0, 1) := by decide +kernel
theorem dX10_takePost_1 : decode cX10_takePost 1 = .ok (.getfield 15, 3) := by decide +kernel
theorem dX10_takePost_4 : decode cX10_takePost 4 = .ok (.aload_n 0, 1) := by decide +kernel
theorem dX10_takePost_5 : decode cX10_takePost 5 = .ok (.getfield 19, 3) := by decide +kernel
theorem dX10_takePost_8 : decode cX10_takePost 8 = .ok (.iconst 2, 1) := by decide +kernel
theorem dX10_takePost_9 : decode cX10_takePost 9 = .ok (.iconst (-1), 1) := by decide +kernel
theorem dX10_takePost_10 : decode cX10_takePost 10 = .ok (.invokevirtual 102, 3) := by decide +kernel
theorem dX10_takePost_13 : decode cX10_takePost 13 = .ok (.istore_n 1, 1) := by decide +kernel
theorem dX10_takePost_14 : decode cX10_takePost 14 = .ok (.iload_n 1, 1) := by decide +kernel
theorem dX10_takePost_15 : decode cX10_takePost 15 = .ok (.iconst (-1), 1) := by decide +kernel
theorem dX10_takePost_16 : decode cX10_takePost 16 = .ok (.if_icmp .ne 5, 3) := by decide +kernel
theorem dX10_takePost_19 : decode cX10_takePost 19 = .ok (.iconst 0, 1) := by decide +kernel
theorem dX10_takePost_20 : decode cX10_takePost 20 = .ok (.ireturn, 1) := by decide +kernel
theorem dX10_takePost_21 : decode cX10_takePost 21 = .ok (.aload_n 0, 1) := by decide +kernel
theorem dX10_takePost_22 : decode cX10_takePost 22 = .ok (.getfield 15, 3) := by decide +kernel
theorem dX10_takePost_25 : decode cX10_takePost 25 = .ok (.aload_n 0, 1) := by decide +kernel
theorem dX10_takePost_26 : decode cX10_takePost 26 = .ok (.getfield 19, 3) := by decide +kernel
theorem dX10_takePost_29 : decode cX10_takePost 29 = .ok (.iconst 2, 1) := by decide +kernel
theorem dX10_takePost_30 : decode cX10_takePost 30 = .ok (.iload_n 1, 1) := by decide +kernel
theorem dX10_takePost_31 : decode cX10_takePost 31 = .ok (.invokevirtual 102, 3) := by decide +kernel
theorem dX10_takePost_34 : decode cX10_takePost 34 = .ok (.istore_n 2, 1) := by decide +kernel
theorem dX10_takePost_35 : decode cX10_takePost 35 = .ok (.iload_n 2, 1) := by decide +kernel
theorem dX10_takePost_36 : decode cX10_takePost 36 = .ok (.iconst (-1), 1) := by decide +kernel
theorem dX10_takePost_37 : decode cX10_takePost 37 = .ok (.if_icmp .ne 5, 3) := by decide +kernel
theorem dX10_takePost_40 : decode cX10_takePost 40 = .ok (.iconst 0, 1) := by decide +kernel
theorem dX10_takePost_41 : decode cX10_takePost 41 = .ok (.ireturn, 1) := by decide +kernel
theorem dX10_takePost_42 : decode cX10_takePost 42 = .ok (.aload_n 0, 1) := by decide +kernel
theorem dX10_takePost_43 : decode cX10_takePost 43 = .ok (.getfield 15, 3) := by decide +kernel
theorem dX10_takePost_46 : decode cX10_takePost 46 = .ok (.iconst 1, 1) := by decide +kernel
theorem dX10_takePost_47 : decode cX10_takePost 47 = .ok (.bipush 99, 2) := by decide +kernel
theorem dX10_takePost_49 : decode cX10_takePost 49 = .ok (.invokevirtual 98, 3) := by decide +kernel
theorem dX10_takePost_52 : decode cX10_takePost 52 = .ok (.istore_n 3, 1) := by decide +kernel
theorem dX10_takePost_53 : decode cX10_takePost 53 = .ok (.aload_n 0, 1) := by decide +kernel
theorem dX10_takePost_54 : decode cX10_takePost 54 = .ok (.getfield 23, 3) := by decide +kernel
theorem dX10_takePost_57 : decode cX10_takePost 57 = .ok (.bipush 16, 2) := by decide +kernel
theorem dX10_takePost_59 : decode cX10_takePost 59 = .ok (.iload_n 1, 1) := by decide +kernel
theorem dX10_takePost_60 : decode cX10_takePost 60 = .ok (.iload_n 2, 1) := by decide +kernel
theorem dX10_takePost_61 : decode cX10_takePost 61 = .ok (.iload_n 3, 1) := by decide +kernel
theorem dX10_takePost_62 : decode cX10_takePost 62 = .ok (.invokevirtual 75, 3) := by decide +kernel
theorem dX10_takePost_65 : decode cX10_takePost 65 = .ok (.iload_n 3, 1) := by decide +kernel
theorem dX10_takePost_66 : decode cX10_takePost 66 = .ok (.iconst (-1), 1) := by decide +kernel
theorem dX10_takePost_67 : decode cX10_takePost 67 = .ok (.if_icmp .eq 7, 3) := by decide +kernel
theorem dX10_takePost_70 : decode cX10_takePost 70 = .ok (.iconst 1, 1) := by decide +kernel
theorem dX10_takePost_71 : decode cX10_takePost 71 = .ok (.goto 4, 3) := by decide +kernel
theorem dX10_takePost_74 : decode cX10_takePost 74 = .ok (.iconst 0, 1) := by decide +kernel
theorem dX10_takePost_75 : decode cX10_takePost 75 = .ok (.ireturn, 1) := by decide +kernel
noncomputable def fX10_takePost (rf : Nat → Nat → Nat) (a0 : Nat) (μ0 : o_Mem) : Option (Int32 × o_Mem) :=
  o_bd (fX4_wantKnown rf (rf a0 0) (rf a0 1) 2 (-1) μ0) fun r1 μ1 =>
  if r1 = (-1) then (
    some (0, μ1))
  else (
    o_bd (fX4_wantKnown rf (rf a0 0) (rf a0 1) 2 r1 μ1) fun r2 μ2 =>
    if r2 = (-1) then (
      some (0, μ2))
    else (
      o_bd (fX4_wantNumber rf (rf a0 0) 1 99 μ2) fun r3 μ3 =>
      o_bd (fX3_add rf (rf a0 2) 16 r1 r2 r3 μ3) fun _u μ4 =>
      if r3 = (-1) then (
        some (0, μ4))
      else (
        some (1, μ4))))
set_option maxRecDepth 20000 in
theorem dnX10_takePost {X : o_Cx} (hX : o_ok X) {d : Nat} {a0 : Nat} {μ0 : o_Mem} {q : Int32 → o_Mem → Prop} (h0 : o_is X a0 (.inl 10)) (h : o_Post (fX10_takePost (o_rf X) a0 μ0) q) : o_Ev X (d + 7) mX10_takePost 0 [some (.ref (o_ad X a0)), none, none, none] [] μ0 (o_QZ q) := by
  unfold fX10_takePost at h
  refine s_aload_n (i := 0) dX10_takePost_0 rfl rfl ?_
  refine s_getR hX h0 flX10_15 rfl dX10_takePost_1 (fun (g1 : o_is X (o_rf X a0 0) (.inl 4)) => ?_)
  refine s_aload_n (i := 0) dX10_takePost_4 rfl rfl ?_
  refine s_getR hX h0 flX10_19 rfl dX10_takePost_5 (fun (g2 : o_is X (o_rf X a0 1) (.inl 8)) => ?_)
  refine s_iconst dX10_takePost_8 kI_2 ?_
  refine s_iconst dX10_takePost_9 kI_m1 ?_
  refine s_callVi (C := mX4_wantKnown) (As := [.ref (o_ad X (o_rf X a0 1)), .int 2, .int (-1)]) (rest := []) (L0 := [some (.ref (o_ad X (o_rf X a0 0))), some (.ref (o_ad X (o_rf X a0 1))), some (.int 2), some (.int (-1)), none]) hX g1 clX10_102 dX10_takePost_10 rfl rfl (Nat.le_of_ble_eq_true rfl) (Nat.le_of_ble_eq_true rfl) (dnX4_wantKnown hX g1 g2 (o_bdp h)) (fun r1 μ1 h => ?_)
  refine s_istore_n (i := 1) dX10_takePost_13 rfl (Nat.le_of_ble_eq_true rfl) rfl ?_
  refine s_iload_n (i := 1) dX10_takePost_14 rfl rfl ?_
  refine s_iconst dX10_takePost_15 kI_m1 ?_
  refine s_icmp_ne (tgt := 21) dX10_takePost_16 rfl (fun c1 => ?_) (fun c1 => ?_)
  · have h := o_if_f c1 h
    refine s_aload_n (i := 0) dX10_takePost_21 rfl rfl ?_
    refine s_getR hX h0 flX10_15 rfl dX10_takePost_22 (fun (g3 : o_is X (o_rf X a0 0) (.inl 4)) => ?_)
    refine s_aload_n (i := 0) dX10_takePost_25 rfl rfl ?_
    refine s_getR hX h0 flX10_19 rfl dX10_takePost_26 (fun (g4 : o_is X (o_rf X a0 1) (.inl 8)) => ?_)
    refine s_iconst dX10_takePost_29 kI_2 ?_
    refine s_iload_n (i := 1) dX10_takePost_30 rfl rfl ?_
    refine s_callVi (C := mX4_wantKnown) (As := [.ref (o_ad X (o_rf X a0 1)), .int 2, .int r1]) (rest := []) (L0 := [some (.ref (o_ad X (o_rf X a0 0))), some (.ref (o_ad X (o_rf X a0 1))), some (.int 2), some (.int r1), none]) hX g3 clX10_102 dX10_takePost_31 rfl rfl (Nat.le_of_ble_eq_true rfl) (Nat.le_of_ble_eq_true rfl) (dnX4_wantKnown hX g3 g4 (o_bdp h)) (fun r2 μ2 h => ?_)
    refine s_istore_n (i := 2) dX10_takePost_34 rfl (Nat.le_of_ble_eq_true rfl) rfl ?_
    refine s_iload_n (i := 2) dX10_takePost_35 rfl rfl ?_
    refine s_iconst dX10_takePost_36 kI_m1 ?_
    refine s_icmp_ne (tgt := 42) dX10_takePost_37 rfl (fun c1 => ?_) (fun c1 => ?_)
    · have h := o_if_f c1 h
      refine s_aload_n (i := 0) dX10_takePost_42 rfl rfl ?_
      refine s_getR hX h0 flX10_15 rfl dX10_takePost_43 (fun (g5 : o_is X (o_rf X a0 0) (.inl 4)) => ?_)
      refine s_iconst dX10_takePost_46 kI_1 ?_
      refine s_bipush dX10_takePost_47 kB_99 ?_
      refine s_callVi (C := mX4_wantNumber) (As := [.int 1, .int 99]) (rest := []) (L0 := [some (.ref (o_ad X (o_rf X a0 0))), some (.int 1), some (.int 99), none]) hX g5 clX10_98 dX10_takePost_49 rfl rfl (Nat.le_of_ble_eq_true rfl) (Nat.le_of_ble_eq_true rfl) (dnX4_wantNumber hX g5 (o_bdp h)) (fun r3 μ3 h => ?_)
      refine s_istore_n (i := 3) dX10_takePost_52 rfl (Nat.le_of_ble_eq_true rfl) rfl ?_
      refine s_aload_n (i := 0) dX10_takePost_53 rfl rfl ?_
      refine s_getR hX h0 flX10_23 rfl dX10_takePost_54 (fun (g6 : o_is X (o_rf X a0 2) (.inl 3)) => ?_)
      refine s_bipush dX10_takePost_57 kB_16 ?_
      refine s_iload_n (i := 1) dX10_takePost_59 rfl rfl ?_
      refine s_iload_n (i := 2) dX10_takePost_60 rfl rfl ?_
      refine s_iload_n (i := 3) dX10_takePost_61 rfl rfl ?_
      refine s_callVu (C := mX3_add) (As := [.int 16, .int r1, .int r2, .int r3]) (rest := []) (L0 := [some (.ref (o_ad X (o_rf X a0 2))), some (.int 16), some (.int r1), some (.int r2), some (.int r3)]) hX g6 clX10_75 dX10_takePost_62 rfl rfl (Nat.le_of_ble_eq_true rfl) (Nat.le_of_ble_eq_true rfl) (dnX3_add hX g6 (o_bdp h)) (fun _u μ4 h => ?_)
      refine s_iload_n (i := 3) dX10_takePost_65 rfl rfl ?_
      refine s_iconst dX10_takePost_66 kI_m1 ?_
      refine s_icmp_eq (tgt := 74) dX10_takePost_67 rfl (fun c1 => ?_) (fun c1 => ?_)
      · have h := o_if_t c1 h
        refine s_iconst dX10_takePost_74 kI_0 ?_
        exact s_zreturn rfl (Or.inl rfl) dX10_takePost_75 ⟨_, rfl, (Or.inl rfl), o_ret h⟩
      · have h := o_if_f c1 h
        refine s_iconst dX10_takePost_70 kI_1 ?_
        refine s_goto (tgt := 75) dX10_takePost_71 rfl ?_
        exact s_zreturn rfl (Or.inr rfl) dX10_takePost_75 ⟨_, rfl, (Or.inr rfl), o_ret h⟩
    · have h := o_if_t c1 h
      refine s_iconst dX10_takePost_40 kI_0 ?_
      exact s_zreturn rfl (Or.inl rfl) dX10_takePost_41 ⟨_, rfl, (Or.inl rfl), o_ret h⟩
  · have h := o_if_t c1 h
    refine s_iconst dX10_takePost_19 kI_0 ?_
    exact s_zreturn rfl (Or.inl rfl) dX10_takePost_20 ⟨_, rfl, (Or.inl rfl), o_ret h⟩
theorem dX10_takeTest_0 : decode cX10_takeTest 0 = .ok (.aload_n 0, 1) := by decide +kernel
theorem dX10_takeTest_1 : decode cX10_takeTest 1 = .ok (.getfield 15, 3) := by decide +kernel
theorem dX10_takeTest_4 : decode cX10_takeTest 4 = .ok (.getfield 49, 3) := by decide +kernel
theorem dX10_takeTest_7 : decode cX10_takeTest 7 = .ok (.istore_n 1, 1) := by decide +kernel
theorem dX10_takeTest_8 : decode cX10_takeTest 8 = .ok (.iconst 0, 1) := by decide +kernel
theorem dX10_takeTest_9 : decode cX10_takeTest 9 = .ok (.istore_n 2, 1) := by decide +kernel
theorem dX10_takeTest_10 : decode cX10_takeTest 10 = .ok (.iload_n 1, 1) := by decide +kernel
theorem dX10_takeTest_11 : decode cX10_takeTest 11 = .ok (.bipush 21, 2) := by decide +kernel
theorem dX10_takeTest_13 : decode cX10_takeTest 13 = .ok (.if_icmp .eq 24, 3) := by decide +kernel
theorem dX10_takeTest_16 : decode cX10_takeTest 16 = .ok (.iload_n 1, 1) := by decide +kernel
theorem dX10_takeTest_17 : decode cX10_takeTest 17 = .ok (.bipush 22, 2) := by decide +kernel
theorem dX10_takeTest_19 : decode cX10_takeTest 19 = .ok (.if_icmp .eq 18, 3) := by decide +kernel
theorem dX10_takeTest_22 : decode cX10_takeTest 22 = .ok (.iload_n 1, 1) := by decide +kernel
theorem dX10_takeTest_23 : decode cX10_takeTest 23 = .ok (.bipush 23, 2) := by decide +kernel
theorem dX10_takeTest_25 : decode cX10_takeTest 25 = .ok (.if_icmp .eq 12, 3) := by decide +kernel
theorem dX10_takeTest_28 : decode cX10_takeTest 28 = .ok (.aload_n 0, 1) := by decide +kernel
theorem dX10_takeTest_29 : decode cX10_takeTest 29 = .ok (.getfield 15, 3) := by decide +kernel
theorem dX10_takeTest_32 : decode cX10_takeTest 32 = .ok (.iconst 2, 1) := by decide +kernel
theorem dX10_takeTest_33 : decode cX10_takeTest 33 = .ok (.invokevirtual 66, 3) := by decide +kernel
theorem dX10_takeTest_36 : decode cX10_takeTest 36 = .ok (.ireturn, 1) := by decide +kernel
theorem dX10_takeTest_37 : decode cX10_takeTest 37 = .ok (.aload_n 0, 1) := by decide +kernel
theorem dX10_takeTest_38 : decode cX10_takeTest 38 = .ok (.getfield 15, 3) := by decide +kernel
theorem dX10_takeTest_41 : decode cX10_takeTest 41 = .ok (.invokevirtual 79, 3) := by decide +kernel
theorem dX10_takeTest_44 : decode cX10_takeTest 44 = .ok (.iload_n 1, 1) := by decide +kernel
theorem dX10_takeTest_45 : decode cX10_takeTest 45 = .ok (.bipush 21, 2) := by decide +kernel
theorem dX10_takeTest_47 : decode cX10_takeTest 47 = .ok (.if_icmp .ne 17, 3) := by decide +kernel
theorem dX10_takeTest_50 : decode cX10_takeTest 50 = .ok (.aload_n 0, 1) := by decide +kernel
theorem dX10_takeTest_51 : decode cX10_takeTest 51 = .ok (.getfield 15, 3) := by decide +kernel
theorem dX10_takeTest_54 : decode cX10_takeTest 54 = .ok (.aload_n 0, 1) := by decide +kernel
theorem dX10_takeTest_55 : decode cX10_takeTest 55 = .ok (.getfield 19, 3) := by decide +kernel
theorem dX10_takeTest_58 : decode cX10_takeTest 58 = .ok (.iconst 0, 1) := by decide +kernel
theorem dX10_takeTest_59 : decode cX10_takeTest 59 = .ok (.iconst (-1), 1) := by decide +kernel
theorem dX10_takeTest_60 : decode cX10_takeTest 60 = .ok (.invokevirtual 102, 3) := by decide +kernel
theorem dX10_takeTest_63 : decode cX10_takeTest 63 = .ok (.istore_n 2, 1) := by decide +kernel
theorem dX10_takeTest_64 : decode cX10_takeTest 64 = .ok (.iload_n 1, 1) := by decide +kernel
theorem dX10_takeTest_65 : decode cX10_takeTest 65 = .ok (.bipush 22, 2) := by decide +kernel
theorem dX10_takeTest_67 : decode cX10_takeTest 67 = .ok (.if_icmp .ne 61, 3) := by decide +kernel
theorem dX10_takeTest_70 : decode cX10_takeTest 70 = .ok (.aload_n 0, 1) := by decide +kernel
theorem dX10_takeTest_71 : decode cX10_takeTest 71 = .ok (.getfield 15, 3) := by decide +kernel
theorem dX10_takeTest_74 : decode cX10_takeTest 74 = .ok (.getfield 46, 3) := by decide +kernel
theorem dX10_takeTest_77 : decode cX10_takeTest 77 = .ok (.iconst 3, 1) := by decide +kernel
theorem dX10_takeTest_78 : decode cX10_takeTest 78 = .ok (.if_icmp .ne 15, 3) := by decide +kernel
theorem dX10_takeTest_81 : decode cX10_takeTest 81 = .ok (.aload_n 0, 1) := by decide +kernel
theorem dX10_takeTest_82 : decode cX10_takeTest 82 = .ok (.getfield 15, 3) := by decide +kernel
theorem dX10_takeTest_85 : decode cX10_takeTest 85 = .ok (.getfield 106, 3) := by decide +kernel
theorem dX10_takeTest_88 : decode cX10_takeTest 88 = .ok (.bipush 59, 2) := by decide +kernel
theorem dX10_takeTest_90 : decode cX10_takeTest 90 = .ok (.if_icmp .ne 12, 3) := by decide +kernel
theorem dX10_takeTest_93 : decode cX10_takeTest 93 = .ok (.aload_n 0, 1) := by decide +kernel
theorem dX10_takeTest_94 : decode cX10_takeTest 94 = .ok (.getfield 15, 3) := by decide +kernel
theorem dX10_takeTest_97 : decode cX10_takeTest 97 = .ok (.iconst 2, 1) := by decide +kernel
theorem dX10_takeTest_98 : decode cX10_takeTest 98 = .ok (.invokevirtual 66, 3) := by decide +kernel
theorem dX10_takeTest_101 : decode cX10_takeTest 101 = .ok (.ireturn, 1) := by decide +kernel
theorem dX10_takeTest_102 : decode cX10_takeTest 102 = .ok (.aload_n 0, 1) := by decide +kernel
theorem dX10_takeTest_103 : decode cX10_takeTest 103 = .ok (.getfield 15, 3) := by decide +kernel
theorem dX10_takeTest_106 : decode cX10_takeTest 106 = .ok (.getfield 106, 3) := by decide +kernel
theorem dX10_takeTest_109 : decode cX10_takeTest 109 = .ok (.istore_n 1, 1) := by decide +kernel
theorem dX10_takeTest_110 : decode cX10_takeTest 110 = .ok (.aload_n 0, 1) := by decide +kernel
theorem dX10_takeTest_111 : decode cX10_takeTest 111 = .ok (.getfield 15, 3) := by decide +kernel
theorem dX10_takeTest_114 : decode cX10_takeTest 114 = .ok (.invokevirtual 79, 3) := by decide +kernel
theorem dX10_takeTest_117 : decode cX10_takeTest 117 = .ok (.aload_n 0, 1) := by decide +kernel
theorem dX10_takeTest_118 : decode cX10_takeTest 118 = .ok (.getfield 15, 3) := by decide +kernel
theorem dX10_takeTest_121 : decode cX10_takeTest 121 = .ok (.iconst 0, 1) := by decide +kernel
theorem dX10_takeTest_122 : decode cX10_takeTest 122 = .ok (.bipush 99, 2) := by decide +kernel
theorem dX10_takeTest_124 : decode cX10_takeTest 124 = .ok (.invokevirtual 98, 3) := by decide +kernel
theorem dX10_takeTest_127 : decode cX10_takeTest 127 = .ok (.istore_n 2, 1) := by decide +kernel
theorem dX10_takeTest_128 : decode cX10_takeTest 128 = .ok (.aload_n 0, 1) := by decide +kernel
theorem dX10_takeTest_129 : decode cX10_takeTest 129 = .ok (.getfield 23, 3) := by decide +kernel
theorem dX10_takeTest_132 : decode cX10_takeTest 132 = .ok (.bipush 20, 2) := by decide +kernel
theorem dX10_takeTest_134 : decode cX10_takeTest 134 = .ok (.iload_n 1, 1) := by decide +kernel
theorem dX10_takeTest_135 : decode cX10_takeTest 135 = .ok (.iload_n 2, 1) := by decide +kernel
theorem dX10_takeTest_136 : decode cX10_takeTest 136 = .ok (.iconst 0, 1) := by decide +kernel
theorem dX10_takeTest_137 : decode cX10_takeTest 137 = .ok (.invokevirtual 75, 3) := by decide +kernel
theorem dX10_takeTest_140 : decode cX10_takeTest 140 = .ok (.iload_n 2, 1) := by decide +kernel
theorem dX10_takeTest_141 : decode cX10_takeTest 141 = .ok (.iconst (-1), 1) := by decide +kernel
theorem dX10_takeTest_142 : decode cX10_takeTest 142 = .ok (.if_icmp .eq 7, 3) := by decide +kernel
theorem dX10_takeTest_145 : decode cX10_takeTest 145 = .ok (.iconst 1, 1) := by decide +kernel
theorem dX10_takeTest_146 : decode cX10_takeTest 146 = .ok (.goto 4, 3) := by decide +kernel
theorem dX10_takeTest_149 : decode cX10_takeTest 149 = .ok (.iconst 0, 1) := by decide +kernel
theorem dX10_takeTest_150 : decode cX10_takeTest 150 = .ok (.ireturn, 1) := by decide +kernel
noncomputable def fX10_takeTest_j128 (rf : Nat → Nat → Nat) (a0 : Nat) (x1 : Int32) (x2 : Int32) (μ0 : o_Mem) : Option (Int32 × o_Mem) :=
  o_bd (fX3_add rf (rf a0 2) 20 x1 x2 0 μ0) fun _u μ1 =>
  if x2 = (-1) then (
    some (0, μ1))
  else (
    some (1, μ1))
noncomputable def fX10_takeTest_j93 (rf : Nat → Nat → Nat) (a0 : Nat) (μ0 : o_Mem) : Option (Int32 × o_Mem) :=
  o_bd (fX4_fail rf (rf a0 0) 2 μ0) fun r1 μ1 =>
  some (r1, μ1)
noncomputable def fX10_takeTest_j64 (rf : Nat → Nat → Nat) (a0 : Nat) (x1 : Int32) (x2 : Int32) (μ0 : o_Mem) : Option (Int32 × o_Mem) :=
  if x1 = 22 then (
    if (μ0.1 (rf a0 0) 7) = 3 then (
      if (μ0.1 (rf a0 0) 11) = 59 then (
        fX10_takeTest_j93 rf a0 μ0)
      else (
        o_bd (fX4_next rf (rf a0 0) μ0) fun _u μ1 =>
        o_bd (fX4_wantNumber rf (rf a0 0) 0 99 μ1) fun r1 μ2 =>
        fX10_takeTest_j128 rf a0 (μ0.1 (rf a0 0) 11) r1 μ2))
    else (
      fX10_takeTest_j93 rf a0 μ0))
  else (
    fX10_takeTest_j128 rf a0 x1 x2 μ0)
noncomputable def fX10_takeTest_j37 (rf : Nat → Nat → Nat) (a0 : Nat) (x1 : Int32) (x2 : Int32) (μ0 : o_Mem) : Option (Int32 × o_Mem) :=
  o_bd (fX4_next rf (rf a0 0) μ0) fun _u μ1 =>
  if x1 = 21 then (
    o_bd (fX4_wantKnown rf (rf a0 0) (rf a0 1) 0 (-1) μ1) fun r1 μ2 =>
    fX10_takeTest_j64 rf a0 x1 r1 μ2)
  else (
    fX10_takeTest_j64 rf a0 x1 x2 μ1)
noncomputable def fX10_takeTest (rf : Nat → Nat → Nat) (a0 : Nat) (μ0 : o_Mem) : Option (Int32 × o_Mem) :=
  if (μ0.1 (rf a0 0) 8) = 21 then (
    fX10_takeTest_j37 rf a0 (μ0.1 (rf a0 0) 8) 0 μ0)
  else (
    if (μ0.1 (rf a0 0) 8) = 22 then (
      fX10_takeTest_j37 rf a0 (μ0.1 (rf a0 0) 8) 0 μ0)
    else (
      if (μ0.1 (rf a0 0) 8) = 23 then (
        fX10_takeTest_j37 rf a0 (μ0.1 (rf a0 0) 8) 0 μ0)
      else (
        o_bd (fX4_fail rf (rf a0 0) 2 μ0) fun r1 μ1 =>
        some (r1, μ1))))
set_option maxRecDepth 20000 in
theorem dnX10_takeTest_j128 {X : o_Cx} (hX : o_ok X) {d : Nat} {a0 : Nat} {x1 : Int32} {x2 : Int32} {μ0 : o_Mem} {q : Int32 → o_Mem → Prop} (h0 : o_is X a0 (.inl 10)) (h : o_Post (fX10_takeTest_j128 (o_rf X) a0 x1 x2 μ0) q) : o_Ev X (d + 7) mX10_takeTest 128 [some (.ref (o_ad X a0)), some (.int x1), some (.int x2)] [] μ0 (o_QZ q) := by
  unfold fX10_takeTest_j128 at h
  refine s_aload_n (i := 0) dX10_takeTest_128 rfl rfl ?_
  refine s_getR hX h0 flX10_23 rfl dX10_takeTest_129 (fun (g1 : o_is X (o_rf X a0 2) (.inl 3)) => ?_)
  refine s_bipush dX10_takeTest_132 kB_20 ?_
  refine s_iload_n (i := 1) dX10_takeTest_134 rfl rfl ?_
  refine s_iload_n (i := 2) dX10_takeTest_135 rfl rfl ?_
  refine s_iconst dX10_takeTest_136 kI_0 ?_
  refine s_callVu (C := mX3_add) (As := [.int 20, .int x1, .int x2, .int 0]) (rest := []) (L0 := [some (.ref (o_ad X (o_rf X a0 2))), some (.int 20), some (.int x1), some (.int x2), some (.int 0)]) hX g1 clX10_75 dX10_takeTest_137 rfl rfl (Nat.le_of_ble_eq_true rfl) (Nat.le_of_ble_eq_true rfl) (dnX3_add hX g1 (o_bdp h)) (fun _u μ1 h => ?_)
  refine s_iload_n (i := 2) dX10_takeTest_140 rfl rfl ?_
  refine s_iconst dX10_takeTest_141 kI_m1 ?_
  refine s_icmp_eq (tgt := 149) dX10_takeTest_142 rfl (fun c1 => ?_) (fun c1 => ?_)
  · have h := o_if_t c1 h
    refine s_iconst dX10_takeTest_149 kI_0 ?_
    exact s_zreturn rfl (Or.inl rfl) dX10_takeTest_150 ⟨_, rfl, (Or.inl rfl), o_ret h⟩
  · have h := o_if_f c1 h
    refine s_iconst dX10_takeTest_145 kI_1 ?_
    refine s_goto (tgt := 150) dX10_takeTest_146 rfl ?_
    exact s_zreturn rfl (Or.inr rfl) dX10_takeTest_150 ⟨_, rfl, (Or.inr rfl), o_ret h⟩
set_option maxRecDepth 20000 in
theorem dnX10_takeTest_j93 {X : o_Cx} (hX : o_ok X) {d : Nat} {a0 : Nat} {μ0 : o_Mem} {q : Int32 → o_Mem → Prop} (h0 : o_is X a0 (.inl 10)) (h : o_Post (fX10_takeTest_j93 (o_rf X) a0 μ0) q) : o_Ev X (d + 7) mX10_takeTest 93 [some (.ref (o_ad X a0)), none, none] [] μ0 (o_QZ q) := by
  unfold fX10_takeTest_j93 at h
  refine s_aload_n (i := 0) dX10_takeTest_93 rfl rfl ?_
  refine s_getR hX h0 flX10_15 rfl dX10_takeTest_94 (fun (g1 : o_is X (o_rf X a0 0) (.inl 4)) => ?_)
  refine s_iconst dX10_takeTest_97 kI_2 ?_
  refine s_callVz (C := mX4_fail) (As := [.int 2]) (rest := []) (L0 := [some (.ref (o_ad X (o_rf X a0 0))), some (.int 2)]) hX g1 clX10_66 dX10_takeTest_98 rfl rfl (Nat.le_of_ble_eq_true rfl) (Nat.le_of_ble_eq_true rfl) (dnX4_fail hX g1 (o_bdp h)) (fun r1 μ1 zr1 h => ?_)
  exact s_zreturn rfl zr1 dX10_takeTest_101 ⟨_, rfl, zr1, o_ret h⟩
set_option maxRecDepth 20000 in
theorem dnX10_takeTest_j64 {X : o_Cx} (hX : o_ok X) {d : Nat} {a0 : Nat} {x1 : Int32} {x2 : Int32} {μ0 : o_Mem} {q : Int32 → o_Mem → Prop} (h0 : o_is X a0 (.inl 10)) (h : o_Post (fX10_takeTest_j64 (o_rf X) a0 x1 x2 μ0) q) : o_Ev X (d + 7) mX10_takeTest 64 [some (.ref (o_ad X a0)), some (.int x1), some (.int x2)] [] μ0 (o_QZ q) := by
  unfold fX10_takeTest_j64 at h
  refine s_iload_n (i := 1) dX10_takeTest_64 rfl rfl ?_
  refine s_bipush dX10_takeTest_65 kB_22 ?_
  refine s_icmp_ne (tgt := 128) dX10_takeTest_67 rfl (fun c1 => ?_) (fun c1 => ?_)
  · have h := o_if_f c1 h
    refine s_mask [true, true, true] (L' := [some (.ref (o_ad X a0)), some (.int x1), some (.int x2)]) rfl ?_
    exact dnX10_takeTest_j128 hX h0 h
  · have h := o_if_t c1 h
    refine s_aload_n (i := 0) dX10_takeTest_70 rfl rfl ?_
    refine s_getR hX h0 flX10_15 rfl dX10_takeTest_71 (fun (g1 : o_is X (o_rf X a0 0) (.inl 4)) => ?_)
    refine s_getI g1 flX10_46 rfl dX10_takeTest_74 ?_
    refine s_iconst dX10_takeTest_77 kI_3 ?_
    refine s_icmp_ne (tgt := 93) dX10_takeTest_78 rfl (fun c1 => ?_) (fun c1 => ?_)
    · have h := o_if_f c1 h
      refine s_mask [true, false, false] (L' := [some (.ref (o_ad X a0)), none, none]) rfl ?_
      exact dnX10_takeTest_j93 hX h0 h
    · have h := o_if_t c1 h
      refine s_aload_n (i := 0) dX10_takeTest_81 rfl rfl ?_
      refine s_getR hX h0 flX10_15 rfl dX10_takeTest_82 (fun (g2 : o_is X (o_rf X a0 0) (.inl 4)) => ?_)
      refine s_getI g2 flX10_106 rfl dX10_takeTest_85 ?_
      refine s_bipush dX10_takeTest_88 kB_59 ?_
      refine s_icmp_ne (tgt := 102) dX10_takeTest_90 rfl (fun c1 => ?_) (fun c1 => ?_)
      · have h := o_if_f c1 h
        refine s_aload_n (i := 0) dX10_takeTest_102 rfl rfl ?_
        refine s_getR hX h0 flX10_15 rfl dX10_takeTest_103 (fun (g3 : o_is X (o_rf X a0 0) (.inl 4)) => ?_)
        refine s_getI g3 flX10_106 rfl dX10_takeTest_106 ?_
        refine s_istore_n (i := 1) dX10_takeTest_109 rfl (Nat.le_of_ble_eq_true rfl) rfl ?_
        refine s_aload_n (i := 0) dX10_takeTest_110 rfl rfl ?_
        refine s_getR hX h0 flX10_15 rfl dX10_takeTest_111 (fun (g4 : o_is X (o_rf X a0 0) (.inl 4)) => ?_)
        refine s_callVu (C := mX4_next) (As := []) (rest := []) (L0 := [some (.ref (o_ad X (o_rf X a0 0)))]) hX g4 clX10_79 dX10_takeTest_114 rfl rfl (Nat.le_of_ble_eq_true rfl) (Nat.le_of_ble_eq_true rfl) (dnX4_next hX g4 (o_bdp h)) (fun _u μ1 h => ?_)
        refine s_aload_n (i := 0) dX10_takeTest_117 rfl rfl ?_
        refine s_getR hX h0 flX10_15 rfl dX10_takeTest_118 (fun (g5 : o_is X (o_rf X a0 0) (.inl 4)) => ?_)
        refine s_iconst dX10_takeTest_121 kI_0 ?_
        refine s_bipush dX10_takeTest_122 kB_99 ?_
        refine s_callVi (C := mX4_wantNumber) (As := [.int 0, .int 99]) (rest := []) (L0 := [some (.ref (o_ad X (o_rf X a0 0))), some (.int 0), some (.int 99), none]) hX g5 clX10_98 dX10_takeTest_124 rfl rfl (Nat.le_of_ble_eq_true rfl) (Nat.le_of_ble_eq_true rfl) (dnX4_wantNumber hX g5 (o_bdp h)) (fun r1 μ2 h => ?_)
        refine s_istore_n (i := 2) dX10_takeTest_127 rfl (Nat.le_of_ble_eq_true rfl) rfl ?_
        refine s_mask [true, true, true] (L' := [some (.ref (o_ad X a0)), some (.int (μ0.1 (o_rf X a0 0) 11)), some (.int r1)]) rfl ?_
        exact dnX10_takeTest_j128 hX h0 h
      · have h := o_if_t c1 h
        refine s_mask [true, false, false] (L' := [some (.ref (o_ad X a0)), none, none]) rfl ?_
        exact dnX10_takeTest_j93 hX h0 h
set_option maxRecDepth 20000 in
theorem dnX10_takeTest_j37 {X : o_Cx} (hX : o_ok X) {d : Nat} {a0 : Nat} {x1 : Int32} {x2 : Int32} {μ0 : o_Mem} {q : Int32 → o_Mem → Prop} (h0 : o_is X a0 (.inl 10)) (h : o_Post (fX10_takeTest_j37 (o_rf X) a0 x1 x2 μ0) q) : o_Ev X (d + 7) mX10_takeTest 37 [some (.ref (o_ad X a0)), some (.int x1), some (.int x2)] [] μ0 (o_QZ q) := by
  unfold fX10_takeTest_j37 at h
  refine s_aload_n (i := 0) dX10_takeTest_37 rfl rfl ?_
  refine s_getR hX h0 flX10_15 rfl dX10_takeTest_38 (fun (g1 : o_is X (o_rf X a0 0) (.inl 4)) => ?_)
  refine s_callVu (C := mX4_next) (As := []) (rest := []) (L0 := [some (.ref (o_ad X (o_rf X a0 0)))]) hX g1 clX10_79 dX10_takeTest_41 rfl rfl (Nat.le_of_ble_eq_true rfl) (Nat.le_of_ble_eq_true rfl) (dnX4_next hX g1 (o_bdp h)) (fun _u μ1 h => ?_)
  refine s_iload_n (i := 1) dX10_takeTest_44 rfl rfl ?_
  refine s_bipush dX10_takeTest_45 kB_21 ?_
  refine s_icmp_ne (tgt := 64) dX10_takeTest_47 rfl (fun c1 => ?_) (fun c1 => ?_)
  · have h := o_if_f c1 h
    refine s_mask [true, true, true] (L' := [some (.ref (o_ad X a0)), some (.int x1), some (.int x2)]) rfl ?_
    exact dnX10_takeTest_j64 hX h0 h
  · have h := o_if_t c1 h
    refine s_aload_n (i := 0) dX10_takeTest_50 rfl rfl ?_
    refine s_getR hX h0 flX10_15 rfl dX10_takeTest_51 (fun (g2 : o_is X (o_rf X a0 0) (.inl 4)) => ?_)
    refine s_aload_n (i := 0) dX10_takeTest_54 rfl rfl ?_
    refine s_getR hX h0 flX10_19 rfl dX10_takeTest_55 (fun (g3 : o_is X (o_rf X a0 1) (.inl 8)) => ?_)
    refine s_iconst dX10_takeTest_58 kI_0 ?_
    refine s_iconst dX10_takeTest_59 kI_m1 ?_
    refine s_callVi (C := mX4_wantKnown) (As := [.ref (o_ad X (o_rf X a0 1)), .int 0, .int (-1)]) (rest := []) (L0 := [some (.ref (o_ad X (o_rf X a0 0))), some (.ref (o_ad X (o_rf X a0 1))), some (.int 0), some (.int (-1)), none]) hX g2 clX10_102 dX10_takeTest_60 rfl rfl (Nat.le_of_ble_eq_true rfl) (Nat.le_of_ble_eq_true rfl) (dnX4_wantKnown hX g2 g3 (o_bdp h)) (fun r1 μ2 h => ?_)
    refine s_istore_n (i := 2) dX10_takeTest_63 rfl (Nat.le_of_ble_eq_true rfl) rfl ?_
    refine s_mask [true, true, true] (L' := [some (.ref (o_ad X a0)), some (.int x1), some (.int r1)]) rfl ?_
    exact dnX10_takeTest_j64 hX h0 h
set_option maxRecDepth 20000 in
theorem dnX10_takeTest {X : o_Cx} (hX : o_ok X) {d : Nat} {a0 : Nat} {μ0 : o_Mem} {q : Int32 → o_Mem → Prop} (h0 : o_is X a0 (.inl 10)) (h : o_Post (fX10_takeTest (o_rf X) a0 μ0) q) : o_Ev X (d + 7) mX10_takeTest 0 [some (.ref (o_ad X a0)), none, none] [] μ0 (o_QZ q) := by
  unfold fX10_takeTest at h
  refine s_aload_n (i := 0) dX10_takeTest_0 rfl rfl ?_
  refine s_getR hX h0 flX10_15 rfl dX10_takeTest_1 (fun (g1 : o_is X (o_rf X a0 0) (.inl 4)) => ?_)
  refine s_getI g1 flX10_49 rfl dX10_takeTest_4 ?_
  refine s_istore_n (i := 1) dX10_takeTest_7 rfl (Nat.le_of_ble_eq_true rfl) rfl ?_
  refine s_iconst dX10_takeTest_8 kI_0 ?_
  refine s_istore_n (i := 2) dX10_takeTest_9 rfl (Nat.le_of_ble_eq_true rfl) rfl ?_
  refine s_iload_n (i := 1) dX10_takeTest_10 rfl rfl ?_
  refine s_bipush dX10_takeTest_11 kB_21 ?_
  refine s_icmp_eq (tgt := 37) dX10_takeTest_13 rfl (fun c1 => ?_) (fun c1 => ?_)
  · have h := o_if_t c1 h
    refine s_mask [true, true, true] (L' := [some (.ref (o_ad X a0)), some (.int (μ0.1 (o_rf X a0 0) 8)), some (.int 0)]) rfl ?_
    exact dnX10_takeTest_j37 hX h0 h
  · have h := o_if_f c1 h
    refine s_iload_n (i := 1) dX10_takeTest_16 rfl rfl ?_
    refine s_bipush dX10_takeTest_17 kB_22 ?_
    refine s_icmp_eq (tgt := 37) dX10_takeTest_19 rfl (fun c1 => ?_) (fun c1 => ?_)
    · have h := o_if_t c1 h
      refine s_mask [true, true, true] (L' := [some (.ref (o_ad X a0)), some (.int (μ0.1 (o_rf X a0 0) 8)), some (.int 0)]) rfl ?_
      exact dnX10_takeTest_j37 hX h0 h
    · have h := o_if_f c1 h
      refine s_iload_n (i := 1) dX10_takeTest_22 rfl rfl ?_
      refine s_bipush dX10_takeTest_23 kB_23 ?_
      refine s_icmp_eq (tgt := 37) dX10_takeTest_25 rfl (fun c1 => ?_) (fun c1 => ?_)
      · have h := o_if_t c1 h
        refine s_mask [true, true, true] (L' := [some (.ref (o_ad X a0)), some (.int (μ0.1 (o_rf X a0 0) 8)), some (.int 0)]) rfl ?_
        exact dnX10_takeTest_j37 hX h0 h
      · have h := o_if_f c1 h
        refine s_aload_n (i := 0) dX10_takeTest_28 rfl rfl ?_
        refine s_getR hX h0 flX10_15 rfl dX10_takeTest_29 (fun (g2 : o_is X (o_rf X a0 0) (.inl 4)) => ?_)
        refine s_iconst dX10_takeTest_32 kI_2 ?_
        refine s_callVz (C := mX4_fail) (As := [.int 2]) (rest := []) (L0 := [some (.ref (o_ad X (o_rf X a0 0))), some (.int 2)]) hX g2 clX10_66 dX10_takeTest_33 rfl rfl (Nat.le_of_ble_eq_true rfl) (Nat.le_of_ble_eq_true rfl) (dnX4_fail hX g2 (o_bdp h)) (fun r1 μ1 zr1 h => ?_)
        exact s_zreturn rfl zr1 dX10_takeTest_36 ⟨_, rfl, zr1, o_ret h⟩
theorem dX10_takeRest_0 : decode cX10_takeRest 0 = .ok (.iload_n 1, 1) := by decide +kernel
theorem dX10_takeRest_1 : decode cX10_takeRest 1 = .ok (.tableswitch 81 15 24 #[55, 71, 81, 81, 81, 76, 81, 81, 81, 63], 55) := by decide +kernel
theorem dX10_takeRest_56 : decode cX10_takeRest 56 = .ok (.aload_n 0, 1) := by decide +kernel
theorem dX10_takeRest_57 : decode cX10_takeRest 57 = .ok (.iload_n 1, 1) := by decide +kernel
theorem dX10_takeRest_58 : decode cX10_takeRest 58 = .ok (.bipush 20, 2) := by decide +kernel
theorem dX10_takeRest_60 : decode cX10_takeRest 60 = .ok (.invokevirtual 88, 3) := by decide +kernel
theorem dX10_takeRest_63 : decode cX10_takeRest 63 = .ok (.ireturn, 1) := by decide +kernel
theorem dX10_takeRest_64 : decode cX10_takeRest 64 = .ok (.aload_n 0, 1) := by decide +kernel
theorem dX10_takeRest_65 : decode cX10_takeRest 65 = .ok (.iload_n 1, 1) := by decide +kernel
theorem dX10_takeRest_66 : decode cX10_takeRest 66 = .ok (.bipush 99, 2) := by decide +kernel
theorem dX10_takeRest_68 : decode cX10_takeRest 68 = .ok (.invokevirtual 88, 3) := by decide +kernel
theorem dX10_takeRest_71 : decode cX10_takeRest 71 = .ok (.ireturn, 1) := by decide +kernel
theorem dX10_takeRest_72 : decode cX10_takeRest 72 = .ok (.aload_n 0, 1) := by decide +kernel
theorem dX10_takeRest_73 : decode cX10_takeRest 73 = .ok (.invokevirtual 92, 3) := by decide +kernel
theorem dX10_takeRest_76 : decode cX10_takeRest 76 = .ok (.ireturn, 1) := by decide +kernel
theorem dX10_takeRest_77 : decode cX10_takeRest 77 = .ok (.aload_n 0, 1) := by decide +kernel
theorem dX10_takeRest_78 : decode cX10_takeRest 78 = .ok (.invokevirtual 95, 3) := by decide +kernel
theorem dX10_takeRest_81 : decode cX10_takeRest 81 = .ok (.ireturn, 1) := by decide +kernel
theorem dX10_takeRest_82 : decode cX10_takeRest 82 = .ok (.aload_n 0, 1) := by decide +kernel
theorem dX10_takeRest_83 : decode cX10_takeRest 83 = .ok (.getfield 23, 3) := by decide +kernel
theorem dX10_takeRest_86 : decode cX10_takeRest 86 = .ok (.iload_n 1, 1) := by decide +kernel
theorem dX10_takeRest_87 : decode cX10_takeRest 87 = .ok (.iconst 0, 1) := by decide +kernel
theorem dX10_takeRest_88 : decode cX10_takeRest 88 = .ok (.iconst 0, 1) := by decide +kernel
theorem dX10_takeRest_89 : decode cX10_takeRest 89 = .ok (.iconst 0, 1) := by decide +kernel
theorem dX10_takeRest_90 : decode cX10_takeRest 90 = .ok (.invokevirtual 75, 3) := by decide +kernel
theorem dX10_takeRest_93 : decode cX10_takeRest 93 = .ok (.iconst 1, 1) := by decide +kernel
theorem dX10_takeRest_94 : decode cX10_takeRest 94 = .ok (.ireturn, 1) := by decide +kernel
noncomputable def fX10_takeRest (rf : Nat → Nat → Nat) (a0 : Nat) (x1 : Int32) (μ0 : o_Mem) : Option (Int32 × o_Mem) :=
  if x1 = 15 then (
    o_bd (fX10_takeNumber rf a0 x1 20 μ0) fun r1 μ1 =>
    some (r1, μ1))
  else
  if x1 = 16 then (
    o_bd (fX10_takePost rf a0 μ0) fun r2 μ2 =>
    some (r2, μ2))
  else
  if x1 = 20 then (
    o_bd (fX10_takeTest rf a0 μ0) fun r3 μ3 =>
    some (r3, μ3))
  else
  if x1 = 24 then (
    o_bd (fX10_takeNumber rf a0 x1 99 μ0) fun r4 μ4 =>
    some (r4, μ4))
  else
    o_bd (fX3_add rf (rf a0 2) x1 0 0 0 μ0) fun _u μ5 =>
    some (1, μ5)
set_option maxRecDepth 20000 in
theorem dnX10_takeRest {X : o_Cx} (hX : o_ok X) {d : Nat} {a0 : Nat} {x1 : Int32} {μ0 : o_Mem} {q : Int32 → o_Mem → Prop} (h0 : o_is X a0 (.inl 10)) (h : o_Post (fX10_takeRest (o_rf X) a0 x1 μ0) q) : o_Ev X (d + 8) mX10_takeRest 0 [some (.ref (o_ad X a0)), some (.int x1)] [] μ0 (o_QZ q) := by
  unfold fX10_takeRest at h
  refine s_iload_n (i := 1) dX10_takeRest_0 rfl rfl ?_
  by_cases e15 : x1 = 15
  · have h := o_if_t e15 h
    refine s_table (off := 55) (tgt := 56) dX10_takeRest_1 rfl (by rw [e15]; decide) rfl ?_
    refine s_aload_n (i := 0) dX10_takeRest_56 rfl rfl ?_
    refine s_iload_n (i := 1) dX10_takeRest_57 rfl rfl ?_
    refine s_bipush dX10_takeRest_58 kB_20 ?_
    refine s_callVz (C := mX10_takeNumber) (As := [.int x1, .int 20]) (rest := []) (L0 := [some (.ref (o_ad X a0)), some (.int x1), some (.int 20), none]) hX h0 clX10_88 dX10_takeRest_60 rfl rfl (Nat.le_of_ble_eq_true rfl) (Nat.le_of_ble_eq_true rfl) (dnX10_takeNumber hX h0 (o_bdp h)) (fun r1 μ1 zr1 h => ?_)
    exact s_zreturn rfl zr1 dX10_takeRest_63 ⟨_, rfl, zr1, o_ret h⟩
  have h := o_if_f e15 h
  by_cases e16 : x1 = 16
  · have h := o_if_t e16 h
    refine s_table (off := 71) (tgt := 72) dX10_takeRest_1 rfl (by rw [e16]; decide) rfl ?_
    refine s_aload_n (i := 0) dX10_takeRest_72 rfl rfl ?_
    refine s_callVz (C := mX10_takePost) (As := []) (rest := []) (L0 := [some (.ref (o_ad X a0)), none, none, none]) hX h0 clX10_92 dX10_takeRest_73 rfl rfl (Nat.le_of_ble_eq_true rfl) (Nat.le_of_ble_eq_true rfl) (dnX10_takePost hX h0 (o_bdp h)) (fun r2 μ2 zr2 h => ?_)
    exact s_zreturn rfl zr2 dX10_takeRest_76 ⟨_, rfl, zr2, o_ret h⟩
  have h := o_if_f e16 h
  by_cases e20 : x1 = 20
  · have h := o_if_t e20 h
    refine s_table (off := 76) (tgt := 77) dX10_takeRest_1 rfl (by rw [e20]; decide) rfl ?_
    refine s_aload_n (i := 0) dX10_takeRest_77 rfl rfl ?_
    refine s_callVz (C := mX10_takeTest) (As := []) (rest := []) (L0 := [some (.ref (o_ad X a0)), none, none]) hX h0 clX10_95 dX10_takeRest_78 rfl rfl (Nat.le_of_ble_eq_true rfl) (Nat.le_of_ble_eq_true rfl) (dnX10_takeTest hX h0 (o_bdp h)) (fun r3 μ3 zr3 h => ?_)
    exact s_zreturn rfl zr3 dX10_takeRest_81 ⟨_, rfl, zr3, o_ret h⟩
  have h := o_if_f e20 h
  by_cases e24 : x1 = 24
  · have h := o_if_t e24 h
    refine s_table (off := 63) (tgt := 64) dX10_takeRest_1 rfl (by rw [e24]; decide) rfl ?_
    refine s_aload_n (i := 0) dX10_takeRest_64 rfl rfl ?_
    refine s_iload_n (i := 1) dX10_takeRest_65 rfl rfl ?_
    refine s_bipush dX10_takeRest_66 kB_99 ?_
    refine s_callVz (C := mX10_takeNumber) (As := [.int x1, .int 99]) (rest := []) (L0 := [some (.ref (o_ad X a0)), some (.int x1), some (.int 99), none]) hX h0 clX10_88 dX10_takeRest_68 rfl rfl (Nat.le_of_ble_eq_true rfl) (Nat.le_of_ble_eq_true rfl) (dnX10_takeNumber hX h0 (o_bdp h)) (fun r4 μ4 zr4 h => ?_)
    exact s_zreturn rfl zr4 dX10_takeRest_71 ⟨_, rfl, zr4, o_ret h⟩
  have h := o_if_f e24 h
  have n15 := lv_neT (a := 15) e15 (by decide)
  have n16 := lv_neT (a := 16) e16 (by decide)
  have n20 := lv_neT (a := 20) e20 (by decide)
  have n24 := lv_neT (a := 24) e24 (by decide)
  have hz : (x1).toInt < 15 ∨ 24 < (x1).toInt ∨ (x1).toInt = 17 ∨ (x1).toInt = 18 ∨ (x1).toInt = 19 ∨ (x1).toInt = 21 ∨ (x1).toInt = 22 ∨ (x1).toInt = 23 := by omega
  refine s_table (off := 81) (tgt := 82) dX10_takeRest_1 rfl (by rcases hz with hz | hz | hz | hz | hz | hz | hz | hz; exact o_tabD (Or.inl hz); exact o_tabD (Or.inr hz); all_goals (rw [hz]; decide)) rfl ?_
  refine s_aload_n (i := 0) dX10_takeRest_82 rfl rfl ?_
  refine s_getR hX h0 flX10_23 rfl dX10_takeRest_83 (fun (g1 : o_is X (o_rf X a0 2) (.inl 3)) => ?_)
  refine s_iload_n (i := 1) dX10_takeRest_86 rfl rfl ?_
  refine s_iconst dX10_takeRest_87 kI_0 ?_
  refine s_iconst dX10_takeRest_88 kI_0 ?_
  refine s_iconst dX10_takeRest_89 kI_0 ?_
  refine s_callVu (C := mX3_add) (As := [.int x1, .int 0, .int 0, .int 0]) (rest := []) (L0 := [some (.ref (o_ad X (o_rf X a0 2))), some (.int x1), some (.int 0), some (.int 0), some (.int 0)]) hX g1 clX10_75 dX10_takeRest_90 rfl rfl (Nat.le_of_ble_eq_true rfl) (Nat.le_of_ble_eq_true rfl) (dnX3_add hX g1 (o_bdp h)) (fun _u μ5 h => ?_)
  refine s_iconst dX10_takeRest_93 kI_1 ?_
  exact s_zreturn rfl (Or.inr rfl) dX10_takeRest_94 ⟨_, rfl, (Or.inr rfl), o_ret h⟩
