theorem dX12_live_0 : decode cX12_live 0 = .ok (.iload_n 1, 1) := by decide +kernel
theorem dX12_live_1 : decode cX12_live 1 = .ok (.i2l, 1) := by decide +kernel
theorem dX12_live_2 : decode cX12_live 2 = .ok (.lconst 0, 1) := by decide +kernel
theorem dX12_live_3 : decode cX12_live 3 = .ok (.ldc2_w 480, 3) := by decide +kernel
theorem dX12_live_6 : decode cX12_live 6 = .ok (.invokestatic 348, 3) := by decide +kernel
theorem dX12_live_9 : decode cX12_live 9 = .ok (.ifCond .ne 9, 3) := by decide +kernel
theorem dX12_live_12 : decode cX12_live 12 = .ok (.aload_n 0, 1) := by decide +kernel
theorem dX12_live_13 : decode cX12_live 13 = .ok (.iconst 1, 1) := by decide +kernel
theorem dX12_live_14 : decode cX12_live 14 = .ok (.invokevirtual 87, 3) := by decide +kernel
theorem dX12_live_17 : decode cX12_live 17 = .ok (.ireturn, 1) := by decide +kernel
theorem dX12_live_18 : decode cX12_live 18 = .ok (.aload_n 0, 1) := by decide +kernel
theorem dX12_live_19 : decode cX12_live 19 = .ok (.getfield 7, 3) := by decide +kernel
theorem dX12_live_22 : decode cX12_live 22 = .ok (.bipush 12, 2) := by decide +kernel
theorem dX12_live_24 : decode cX12_live 24 = .ok (.iaload, 1) := by decide +kernel
theorem dX12_live_25 : decode cX12_live 25 = .ok (.iconst (-1), 1) := by decide +kernel
theorem dX12_live_26 : decode cX12_live 26 = .ok (.if_icmp .ne 10, 3) := by decide +kernel
theorem dX12_live_29 : decode cX12_live 29 = .ok (.aload_n 0, 1) := by decide +kernel
theorem dX12_live_30 : decode cX12_live 30 = .ok (.bipush 6, 2) := by decide +kernel
theorem dX12_live_32 : decode cX12_live 32 = .ok (.invokevirtual 87, 3) := by decide +kernel
theorem dX12_live_35 : decode cX12_live 35 = .ok (.ireturn, 1) := by decide +kernel
theorem dX12_live_36 : decode cX12_live 36 = .ok (.aload_n 0, 1) := by decide +kernel
theorem dX12_live_37 : decode cX12_live 37 = .ok (.iload_n 1, 1) := by decide +kernel
theorem dX12_live_38 : decode cX12_live 38 = .ok (.invokevirtual 482, 3) := by decide +kernel
theorem dX12_live_41 : decode cX12_live 41 = .ok (.iconst 0, 1) := by decide +kernel
theorem dX12_live_42 : decode cX12_live 42 = .ok (.istore_n 2, 1) := by decide +kernel
theorem dX12_live_43 : decode cX12_live 43 = .ok (.iload_n 2, 1) := by decide +kernel
theorem dX12_live_44 : decode cX12_live 44 = .ok (.iconst 5, 1) := by decide +kernel
theorem dX12_live_45 : decode cX12_live 45 = .ok (.if_icmp .ge 21, 3) := by decide +kernel
theorem dX12_live_48 : decode cX12_live 48 = .ok (.aload_n 0, 1) := by decide +kernel
theorem dX12_live_49 : decode cX12_live 49 = .ok (.getfield 74, 3) := by decide +kernel
theorem dX12_live_52 : decode cX12_live 52 = .ok (.iload_n 2, 1) := by decide +kernel
theorem dX12_live_53 : decode cX12_live 53 = .ok (.aload_n 0, 1) := by decide +kernel
theorem dX12_live_54 : decode cX12_live 54 = .ok (.getfield 71, 3) := by decide +kernel
theorem dX12_live_57 : decode cX12_live 57 = .ok (.iload_n 2, 1) := by decide +kernel
theorem dX12_live_58 : decode cX12_live 58 = .ok (.iaload, 1) := by decide +kernel
theorem dX12_live_59 : decode cX12_live 59 = .ok (.iastore, 1) := by decide +kernel
theorem dX12_live_60 : decode cX12_live 60 = .ok (.iinc 2 1, 3) := by decide +kernel
theorem dX12_live_63 : decode cX12_live 63 = .ok (.goto (-20), 3) := by decide +kernel
theorem dX12_live_66 : decode cX12_live 66 = .ok (.aload_n 0, 1) := by decide +kernel
theorem dX12_live_67 : decode cX12_live 67 = .ok (.iconst 1, 1) := by decide +kernel
theorem dX12_live_68 : decode cX12_live 68 = .ok (.putfield 485, 3) := by decide +kernel
theorem dX12_live_71 : decode cX12_live 71 = .ok (.aload_n 0, 1) := by decide +kernel
theorem dX12_live_72 : decode cX12_live 72 = .ok (.aload_n 0, 1) := by decide +kernel
theorem dX12_live_73 : decode cX12_live 73 = .ok (.getfield 468, 3) := by decide +kernel
theorem dX12_live_76 : decode cX12_live 76 = .ok (.invokevirtual 91, 3) := by decide +kernel
theorem dX12_live_79 : decode cX12_live 79 = .ok (.ireturn, 1) := by decide +kernel
noncomputable def fX12_live_s43 (rf : Nat → Nat → Nat) (a0 : Nat) (τ43 : Int32) (μ0 : o_Mem) : Option ((Nat × (Int32)) × o_Mem) :=
  if 5 ≤ τ43 then (
    some ((66, 0), μ0))
  else (
    o_ck (0 ≤ (τ43).toInt ∧ (τ43).toInt < 5) <|
    o_ck (0 ≤ (τ43).toInt ∧ (τ43).toInt < 5) <|
    o_seq (o_wI μ0 (rf a0 36) τ43.toNatClampNeg (μ0.1 (rf a0 35) τ43.toNatClampNeg)) fun μ1 =>
    some ((43, (τ43 + 1)), μ1))
noncomputable def fX12_live (rf : Nat → Nat → Nat) (a0 : Nat) (x1 : Int32) (μ0 : o_Mem) : Option (Int32 × o_Mem) :=
  o_bd (fX12_isFrom rf x1.toInt64 (0 : Int64) (9999 : Int64) μ0) fun r1 μ1 =>
  if r1 = 0 then (
    o_bd (fX12_refuse rf a0 1 μ1) fun r4 μ7 =>
    some (r4, μ7))
  else (
    if (μ1.1 (rf a0 0) 12) = (-1) then (
      o_bd (fX12_refuse rf a0 6 μ1) fun r3 μ6 =>
      some (r3, μ6))
    else (
      o_bd (fX12_lives rf a0 x1 μ1) fun _u μ2 =>
      o_bd (o_lp 43 (fX12_live_s43 rf a0) o_fuel (0 : Int32) μ2) fun ex3 μ3 =>
      if ex3.1 = 66 then (
        o_seq (o_wI μ3 a0 37 1) fun μ4 =>
        o_bd (fX12_gives rf a0 (μ4.1 a0 33) μ4) fun r2 μ5 =>
        some (r2, μ5))
      else
        none))
set_option maxRecDepth 20000 in
theorem dnX12_live_s43 {X : o_Cx} (hX : o_ok X) {d : Nat} {a0 : Nat} {τ43 : Int32} {μ0 : o_Mem} {K : (Nat × (Int32)) → o_Mem → Prop} {Q : Option Value → o_Mem → Prop} (h0 : o_is X a0 (.inl 12)) (h : o_Post (fX12_live_s43 (o_rf X) a0 τ43 μ0) K) (kh : ∀ (τ43 : Int32) (μ : o_Mem), K (43, τ43) μ → o_Ev X (d + 11) mX12_live 43 [some (.ref (o_ad X a0)), none, some (.int τ43)] [] μ Q) (k66 : ∀ (τ43 : Int32) (μ : o_Mem), K (66, τ43) μ → o_Ev X (d + 11) mX12_live 66 [some (.ref (o_ad X a0)), none, none] [] μ Q) : o_Ev X (d + 11) mX12_live 43 [some (.ref (o_ad X a0)), none, some (.int τ43)] [] μ0 Q := by
  unfold fX12_live_s43 at h
  refine s_iload_n (i := 2) dX12_live_43 rfl rfl ?_
  refine s_iconst dX12_live_44 kI_5 ?_
  refine s_icmp_ge (tgt := 66) dX12_live_45 rfl (fun c1 => ?_) (fun c1 => ?_)
  · have h := o_if_t c1 h
    refine s_mask [true, false, false] (L' := [some (.ref (o_ad X a0)), none, none]) rfl ?_
    exact k66 0 _ (o_ret h)
  · have h := o_if_f c1 h
    refine s_aload_n (i := 0) dX12_live_48 rfl rfl ?_
    refine s_getR hX h0 flX12_74 rfl dX12_live_49 (fun (g1 : o_is X (o_rf X a0 36) (.inr (0, 5))) => ?_)
    refine s_iload_n (i := 2) dX12_live_52 rfl rfl ?_
    refine s_aload_n (i := 0) dX12_live_53 rfl rfl ?_
    refine s_getR hX h0 flX12_71 rfl dX12_live_54 (fun (g2 : o_is X (o_rf X a0 35) (.inr (0, 5))) => ?_)
    refine s_iload_n (i := 2) dX12_live_57 rfl rfl ?_
    have hc := o_ck_c h
    have h := o_ck_k h
    refine s_ialdK g2 hc rfl dX12_live_58 ?_
    have hc := o_ck_c h
    have h := o_ck_k h
    refine s_iastK hX g1 hc rfl dX12_live_59 (o_gen h (fun μ1 h => ?_))
    refine s_iinc (v := (τ43 + 1)) dX12_live_60 rfl rfl (Nat.le_of_ble_eq_true rfl) rfl ?_
    refine s_goto (tgt := 43) dX12_live_63 rfl ?_
    refine s_mask [true, false, true] (L' := [some (.ref (o_ad X a0)), none, some (.int (τ43 + 1))]) rfl ?_
    exact kh (τ43 + 1) _ (o_ret h)
set_option maxRecDepth 20000 in
theorem dnX12_live {X : o_Cx} (hX : o_ok X) {d : Nat} {a0 : Nat} {x1 : Int32} {μ0 : o_Mem} {q : Int32 → o_Mem → Prop} (h0 : o_is X a0 (.inl 12)) (h : o_Post (fX12_live (o_rf X) a0 x1 μ0) q) : o_Ev X (d + 11) mX12_live 0 [some (.ref (o_ad X a0)), some (.int x1), none] [] μ0 (o_QI q) := by
  unfold fX12_live at h
  refine s_iload_n (i := 1) dX12_live_0 rfl rfl ?_
  refine s_i2l dX12_live_1 ?_
  refine s_lconst (v := 0) dX12_live_2 rfl ?_
  refine s_ldc2 (v := 9999) w_9_99 dX12_live_3 ?_
  refine s_callSz (C := mX12_isFrom) (As := [.long x1.toInt64, .long (0 : Int64), .long (9999 : Int64)]) (rest := []) (L0 := [some (.long x1.toInt64), none, some (.long (0 : Int64)), none, some (.long (9999 : Int64)), none]) clX12_348 dX12_live_6 rfl rfl (Nat.le_of_ble_eq_true rfl) (Nat.le_of_ble_eq_true rfl) (dnX12_isFrom hX  (o_bdp h)) (fun r1 μ1 zr1 h => ?_)
  refine s_if_ne (tgt := 18) dX12_live_9 rfl (fun c1 => ?_) (fun c1 => ?_)
  · have h := o_if_f c1 h
    refine s_aload_n (i := 0) dX12_live_18 rfl rfl ?_
    refine s_getR hX h0 flX12_7 rfl dX12_live_19 (fun (g1 : o_is X (o_rf X a0 0) (.inr (0, 3756))) => ?_)
    refine s_bipush dX12_live_22 kB_12 ?_
    refine s_ialdK g1 ⟨by decide, by decide⟩ kN_12 dX12_live_24 ?_
    refine s_iconst dX12_live_25 kI_m1 ?_
    refine s_icmp_ne (tgt := 36) dX12_live_26 rfl (fun c1 => ?_) (fun c1 => ?_)
    · have h := o_if_f c1 h
      refine s_aload_n (i := 0) dX12_live_36 rfl rfl ?_
      refine s_iload_n (i := 1) dX12_live_37 rfl rfl ?_
      refine s_callVu (C := mX12_lives) (As := [.int x1]) (rest := []) (L0 := [some (.ref (o_ad X a0)), some (.int x1), none, none]) hX h0 clX12_482 dX12_live_38 rfl rfl (Nat.le_of_ble_eq_true rfl) (Nat.le_of_ble_eq_true rfl) (dnX12_lives hX h0 (o_bdp h)) (fun _u μ2 h => ?_)
      refine s_iconst dX12_live_41 kI_0 ?_
      refine s_istore_n (i := 2) dX12_live_42 rfl (Nat.le_of_ble_eq_true rfl) rfl ?_
      refine s_mask [true, false, true] (L' := [some (.ref (o_ad X a0)), none, some (.int 0)]) rfl ?_
      refine o_lp_ev (fun τ43 => [some (.ref (o_ad X a0)), none, some (.int τ43)]) (fun τ43 μ _K h kv ke43 => dnX12_live_s43 hX h0 h kv (fun τ43 μ3 h => ?_)) o_fuel 0 μ2 (o_bdp h)
      · have h := o_if_t rfl (ke43 (66, τ43) μ3 (o_ne rfl) h)
        refine s_aload_n (i := 0) dX12_live_66 rfl rfl ?_
        refine s_iconst dX12_live_67 kI_1 ?_
        refine s_putZ hX h0 fwX12_485 rfl (Or.inr rfl) dX12_live_68 (o_gen h (fun μ4 h => ?_))
        refine s_aload_n (i := 0) dX12_live_71 rfl rfl ?_
        refine s_aload_n (i := 0) dX12_live_72 rfl rfl ?_
        refine s_getI h0 flX12_468 rfl dX12_live_73 ?_
        refine s_callVi (C := mX12_gives) (As := [.int (μ4.1 a0 33)]) (rest := []) (L0 := [some (.ref (o_ad X a0)), some (.int (μ4.1 a0 33))]) hX h0 clX12_91 dX12_live_76 rfl rfl (Nat.le_of_ble_eq_true rfl) (Nat.le_of_ble_eq_true rfl) (dnX12_gives hX h0 (o_bdp h)) (fun r2 μ5 h => ?_)
        exact s_ireturn rfl dX12_live_79 ⟨_, rfl, o_ret h⟩
    · have h := o_if_t c1 h
      refine s_aload_n (i := 0) dX12_live_29 rfl rfl ?_
      refine s_bipush dX12_live_30 kB_6 ?_
      refine s_callVi (C := mX12_refuse) (As := [.int 6]) (rest := []) (L0 := [some (.ref (o_ad X a0)), some (.int 6)]) hX h0 clX12_87 dX12_live_32 rfl rfl (Nat.le_of_ble_eq_true rfl) (Nat.le_of_ble_eq_true rfl) (dnX12_refuse hX h0 (o_bdp h)) (fun r3 μ6 h => ?_)
      exact s_ireturn rfl dX12_live_35 ⟨_, rfl, o_ret h⟩
  · have h := o_if_t c1 h
    refine s_aload_n (i := 0) dX12_live_12 rfl rfl ?_
    refine s_iconst dX12_live_13 kI_1 ?_
    refine s_callVi (C := mX12_refuse) (As := [.int 1]) (rest := []) (L0 := [some (.ref (o_ad X a0)), some (.int 1)]) hX h0 clX12_87 dX12_live_14 rfl rfl (Nat.le_of_ble_eq_true rfl) (Nat.le_of_ble_eq_true rfl) (dnX12_refuse hX h0 (o_bdp h)) (fun r4 μ7 h => ?_)
    exact s_ireturn rfl dX12_live_17 ⟨_, rfl, o_ret h⟩
theorem dX12_lived_0 : decode cX12_lived 0 = .ok (.iload_n 1, 1) := by decide +kernel
theorem dX12_lived_1 : decode cX12_lived 1 = .ok (.ifCond .lt 8, 3) := by decide +kernel
theorem dX12_lived_4 : decode cX12_lived 4 = .ok (.iload_n 1, 1) := by decide +kernel
theorem dX12_lived_5 : decode cX12_lived 5 = .ok (.iconst 4, 1) := by decide +kernel
theorem dX12_lived_6 : decode cX12_lived 6 = .ok (.if_icmp .le 11, 3) := by decide +kernel
theorem dX12_lived_9 : decode cX12_lived 9 = .ok (.aload_n 0, 1) := by decide +kernel
theorem dX12_lived_10 : decode cX12_lived 10 = .ok (.iconst 1, 1) := by decide +kernel
theorem dX12_lived_11 : decode cX12_lived 11 = .ok (.invokevirtual 87, 3) := by decide +kernel
theorem dX12_lived_14 : decode cX12_lived 14 = .ok (.goto 29, 3) := by decide +kernel
theorem dX12_lived_17 : decode cX12_lived 17 = .ok (.aload_n 0, 1) := by decide +kernel
theorem dX12_lived_18 : decode cX12_lived 18 = .ok (.getfield 485, 3) := by decide +kernel
theorem dX12_lived_21 : decode cX12_lived 21 = .ok (.ifCond .eq 16, 3) := by decide +kernel
theorem dX12_lived_24 : decode cX12_lived 24 = .ok (.aload_n 0, 1) := by decide +kernel
theorem dX12_lived_25 : decode cX12_lived 25 = .ok (.aload_n 0, 1) := by decide +kernel
theorem dX12_lived_26 : decode cX12_lived 26 = .ok (.getfield 74, 3) := by decide +kernel
theorem dX12_lived_29 : decode cX12_lived 29 = .ok (.iload_n 1, 1) := by decide +kernel
theorem dX12_lived_30 : decode cX12_lived 30 = .ok (.iaload, 1) := by decide +kernel
theorem dX12_lived_31 : decode cX12_lived 31 = .ok (.invokevirtual 91, 3) := by decide +kernel
theorem dX12_lived_34 : decode cX12_lived 34 = .ok (.goto 9, 3) := by decide +kernel
theorem dX12_lived_37 : decode cX12_lived 37 = .ok (.aload_n 0, 1) := by decide +kernel
theorem dX12_lived_38 : decode cX12_lived 38 = .ok (.bipush 6, 2) := by decide +kernel
theorem dX12_lived_40 : decode cX12_lived 40 = .ok (.invokevirtual 87, 3) := by decide +kernel
theorem dX12_lived_43 : decode cX12_lived 43 = .ok (.ireturn, 1) := by decide +kernel
noncomputable def fX12_lived_j9 (rf : Nat → Nat → Nat) (a0 : Nat) (μ0 : o_Mem) : Option (Int32 × o_Mem) :=
  o_bd (fX12_refuse rf a0 1 μ0) fun r1 μ1 =>
  some (r1, μ1)
noncomputable def fX12_lived (rf : Nat → Nat → Nat) (a0 : Nat) (x1 : Int32) (μ0 : o_Mem) : Option (Int32 × o_Mem) :=
  if x1 < 0 then (
    fX12_lived_j9 rf a0 μ0)
  else (
    if x1 ≤ 4 then (
      if (μ0.1 a0 37) = 0 then (
        o_bd (fX12_refuse rf a0 6 μ0) fun r1 μ1 =>
        some (r1, μ1))
      else (
        o_ck (0 ≤ (x1).toInt ∧ (x1).toInt < 5) <|
        o_bd (fX12_gives rf a0 (μ0.1 (rf a0 36) x1.toNatClampNeg) μ0) fun r2 μ2 =>
        some (r2, μ2)))
    else (
      fX12_lived_j9 rf a0 μ0))
set_option maxRecDepth 20000 in
theorem dnX12_lived_j9 {X : o_Cx} (hX : o_ok X) {d : Nat} {a0 : Nat} {μ0 : o_Mem} {q : Int32 → o_Mem → Prop} (h0 : o_is X a0 (.inl 12)) (h : o_Post (fX12_lived_j9 (o_rf X) a0 μ0) q) : o_Ev X (d + 1) mX12_lived 9 [some (.ref (o_ad X a0)), none] [] μ0 (o_QI q) := by
  unfold fX12_lived_j9 at h
  refine s_aload_n (i := 0) dX12_lived_9 rfl rfl ?_
  refine s_iconst dX12_lived_10 kI_1 ?_
  refine s_callVi (C := mX12_refuse) (As := [.int 1]) (rest := []) (L0 := [some (.ref (o_ad X a0)), some (.int 1)]) hX h0 clX12_87 dX12_lived_11 rfl rfl (Nat.le_of_ble_eq_true rfl) (Nat.le_of_ble_eq_true rfl) (dnX12_refuse hX h0 (o_bdp h)) (fun r1 μ1 h => ?_)
  refine s_goto (tgt := 43) dX12_lived_14 rfl ?_
  exact s_ireturn rfl dX12_lived_43 ⟨_, rfl, o_ret h⟩
set_option maxRecDepth 20000 in
theorem dnX12_lived {X : o_Cx} (hX : o_ok X) {d : Nat} {a0 : Nat} {x1 : Int32} {μ0 : o_Mem} {q : Int32 → o_Mem → Prop} (h0 : o_is X a0 (.inl 12)) (h : o_Post (fX12_lived (o_rf X) a0 x1 μ0) q) : o_Ev X (d + 1) mX12_lived 0 [some (.ref (o_ad X a0)), some (.int x1)] [] μ0 (o_QI q) := by
  unfold fX12_lived at h
  refine s_iload_n (i := 1) dX12_lived_0 rfl rfl ?_
  refine s_if_lt (tgt := 9) dX12_lived_1 rfl (fun c1 => ?_) (fun c1 => ?_)
  · have h := o_if_t c1 h
    refine s_mask [true, false] (L' := [some (.ref (o_ad X a0)), none]) rfl ?_
    exact dnX12_lived_j9 hX h0 h
  · have h := o_if_f c1 h
    refine s_iload_n (i := 1) dX12_lived_4 rfl rfl ?_
    refine s_iconst dX12_lived_5 kI_4 ?_
    refine s_icmp_le (tgt := 17) dX12_lived_6 rfl (fun c1 => ?_) (fun c1 => ?_)
    · have h := o_if_t c1 h
      refine s_aload_n (i := 0) dX12_lived_17 rfl rfl ?_
      refine s_getI h0 flX12_485 rfl dX12_lived_18 ?_
      refine s_if_eq (tgt := 37) dX12_lived_21 rfl (fun c1 => ?_) (fun c1 => ?_)
      · have h := o_if_t c1 h
        refine s_aload_n (i := 0) dX12_lived_37 rfl rfl ?_
        refine s_bipush dX12_lived_38 kB_6 ?_
        refine s_callVi (C := mX12_refuse) (As := [.int 6]) (rest := []) (L0 := [some (.ref (o_ad X a0)), some (.int 6)]) hX h0 clX12_87 dX12_lived_40 rfl rfl (Nat.le_of_ble_eq_true rfl) (Nat.le_of_ble_eq_true rfl) (dnX12_refuse hX h0 (o_bdp h)) (fun r1 μ1 h => ?_)
        exact s_ireturn rfl dX12_lived_43 ⟨_, rfl, o_ret h⟩
      · have h := o_if_f c1 h
        refine s_aload_n (i := 0) dX12_lived_24 rfl rfl ?_
        refine s_aload_n (i := 0) dX12_lived_25 rfl rfl ?_
        refine s_getR hX h0 flX12_74 rfl dX12_lived_26 (fun (g1 : o_is X (o_rf X a0 36) (.inr (0, 5))) => ?_)
        refine s_iload_n (i := 1) dX12_lived_29 rfl rfl ?_
        have hc := o_ck_c h
        have h := o_ck_k h
        refine s_ialdK g1 hc rfl dX12_lived_30 ?_
        refine s_callVi (C := mX12_gives) (As := [.int (μ0.1 (o_rf X a0 36) x1.toNatClampNeg)]) (rest := []) (L0 := [some (.ref (o_ad X a0)), some (.int (μ0.1 (o_rf X a0 36) x1.toNatClampNeg))]) hX h0 clX12_91 dX12_lived_31 rfl rfl (Nat.le_of_ble_eq_true rfl) (Nat.le_of_ble_eq_true rfl) (dnX12_gives hX h0 (o_bdp h)) (fun r2 μ2 h => ?_)
        refine s_goto (tgt := 43) dX12_lived_34 rfl ?_
        exact s_ireturn rfl dX12_lived_43 ⟨_, rfl, o_ret h⟩
    · have h := o_if_f c1 h
      refine s_mask [true, false] (L' := [some (.ref (o_ad X a0)), none]) rfl ?_
      exact dnX12_lived_j9 hX h0 h
theorem dX12_mean_0 : decode cX12_mean 0 = .ok (.iload_n 1, 1) := by decide +kernel
theorem dX12_mean_1 : decode cX12_mean 1 = .ok (.i2l, 1) := by decide +kernel
theorem dX12_mean_2 : decode cX12_mean 2 = .ok (.lconst 0, 1) := by decide +kernel
theorem dX12_mean_3 : decode cX12_mean 3 = .ok (.ldc2_w 480, 3) := by decide +kernel
theorem dX12_mean_6 : decode cX12_mean 6 = .ok (.invokestatic 348, 3) := by decide +kernel
theorem dX12_mean_9 : decode cX12_mean 9 = .ok (.ifCond .eq 26, 3) := by decide +kernel
theorem dX12_mean_12 : decode cX12_mean 12 = .ok (.iload_n 2, 1) := by decide +kernel
theorem dX12_mean_13 : decode cX12_mean 13 = .ok (.i2l, 1) := by decide +kernel
theorem dX12_mean_14 : decode cX12_mean 14 = .ok (.lconst 1, 1) := by decide +kernel
theorem dX12_mean_15 : decode cX12_mean 15 = .ok (.ldc2_w 488, 3) := by decide +kernel
theorem dX12_mean_18 : decode cX12_mean 18 = .ok (.invokestatic 348, 3) := by decide +kernel
theorem dX12_mean_21 : decode cX12_mean 21 = .ok (.ifCond .eq 14, 3) := by decide +kernel
theorem dX12_mean_24 : decode cX12_mean 24 = .ok (.iload_n 1, 1) := by decide +kernel
theorem dX12_mean_25 : decode cX12_mean 25 = .ok (.iload_n 2, 1) := by decide +kernel
theorem dX12_mean_26 : decode cX12_mean 26 = .ok (.iadd, 1) := by decide +kernel
theorem dX12_mean_27 : decode cX12_mean 27 = .ok (.iconst 1, 1) := by decide +kernel
theorem dX12_mean_28 : decode cX12_mean 28 = .ok (.isub, 1) := by decide +kernel
theorem dX12_mean_29 : decode cX12_mean 29 = .ok (.sipush 9999, 3) := by decide +kernel
theorem dX12_mean_32 : decode cX12_mean 32 = .ok (.if_icmp .le 9, 3) := by decide +kernel
theorem dX12_mean_35 : decode cX12_mean 35 = .ok (.aload_n 0, 1) := by decide +kernel
theorem dX12_mean_36 : decode cX12_mean 36 = .ok (.iconst 1, 1) := by decide +kernel
theorem dX12_mean_37 : decode cX12_mean 37 = .ok (.invokevirtual 94, 3) := by decide +kernel
theorem dX12_mean_40 : decode cX12_mean 40 = .ok (.ireturn, 1) := by decide +kernel
theorem dX12_mean_41 : decode cX12_mean 41 = .ok (.aload_n 0, 1) := by decide +kernel
theorem dX12_mean_42 : decode cX12_mean 42 = .ok (.getfield 7, 3) := by decide +kernel
theorem dX12_mean_45 : decode cX12_mean 45 = .ok (.bipush 12, 2) := by decide +kernel
theorem dX12_mean_47 : decode cX12_mean 47 = .ok (.iaload, 1) := by decide +kernel
theorem dX12_mean_48 : decode cX12_mean 48 = .ok (.iconst (-1), 1) := by decide +kernel
theorem dX12_mean_49 : decode cX12_mean 49 = .ok (.if_icmp .ne 10, 3) := by decide +kernel
theorem dX12_mean_52 : decode cX12_mean 52 = .ok (.aload_n 0, 1) := by decide +kernel
theorem dX12_mean_53 : decode cX12_mean 53 = .ok (.bipush 6, 2) := by decide +kernel
theorem dX12_mean_55 : decode cX12_mean 55 = .ok (.invokevirtual 94, 3) := by decide +kernel
theorem dX12_mean_58 : decode cX12_mean 58 = .ok (.ireturn, 1) := by decide +kernel
theorem dX12_mean_59 : decode cX12_mean 59 = .ok (.iconst 0, 1) := by decide +kernel
theorem dX12_mean_60 : decode cX12_mean 60 = .ok (.istore_n 3, 1) := by decide +kernel
theorem dX12_mean_61 : decode cX12_mean 61 = .ok (.iload_n 3, 1) := by decide +kernel
theorem dX12_mean_62 : decode cX12_mean 62 = .ok (.sipush 259, 3) := by decide +kernel
theorem dX12_mean_65 : decode cX12_mean 65 = .ok (.if_icmp .ge 25, 3) := by decide +kernel
theorem dX12_mean_68 : decode cX12_mean 68 = .ok (.aload_n 0, 1) := by decide +kernel
theorem dX12_mean_69 : decode cX12_mean 69 = .ok (.getfield 7, 3) := by decide +kernel
theorem dX12_mean_72 : decode cX12_mean 72 = .ok (.sipush 3130, 3) := by decide +kernel
theorem dX12_mean_75 : decode cX12_mean 75 = .ok (.iload_n 3, 1) := by decide +kernel
theorem dX12_mean_76 : decode cX12_mean 76 = .ok (.iadd, 1) := by decide +kernel
theorem dX12_mean_77 : decode cX12_mean 77 = .ok (.aload_n 0, 1) := by decide +kernel
theorem dX12_mean_78 : decode cX12_mean 78 = .ok (.getfield 7, 3) := by decide +kernel
theorem dX12_mean_81 : decode cX12_mean 81 = .ok (.iload_n 3, 1) := by decide +kernel
theorem dX12_mean_82 : decode cX12_mean 82 = .ok (.iaload, 1) := by decide +kernel
theorem dX12_mean_83 : decode cX12_mean 83 = .ok (.iastore, 1) := by decide +kernel
theorem dX12_mean_84 : decode cX12_mean 84 = .ok (.iinc 3 1, 3) := by decide +kernel
theorem dX12_mean_87 : decode cX12_mean 87 = .ok (.goto (-26), 3) := by decide +kernel
theorem dX12_mean_90 : decode cX12_mean 90 = .ok (.lconst 0, 1) := by decide +kernel
theorem dX12_mean_91 : decode cX12_mean 91 = .ok (.lstore_n 3, 1) := by decide +kernel
theorem dX12_mean_92 : decode cX12_mean 92 = .ok (.iconst 0, 1) := by decide +kernel
theorem dX12_mean_93 : decode cX12_mean 93 = .ok (.istore 5, 2) := by decide +kernel
theorem dX12_mean_95 : decode cX12_mean 95 = .ok (.iload 5, 2) := by decide +kernel
theorem dX12_mean_97 : decode cX12_mean 97 = .ok (.iload_n 2, 1) := by decide +kernel
theorem dX12_mean_98 : decode cX12_mean 98 = .ok (.if_icmp .ge 63, 3) := by decide +kernel
theorem dX12_mean_101 : decode cX12_mean 101 = .ok (.aload_n 0, 1) := by decide +kernel
theorem dX12_mean_102 : decode cX12_mean 102 = .ok (.iload_n 1, 1) := by decide +kernel
theorem dX12_mean_103 : decode cX12_mean 103 = .ok (.iload 5, 2) := by decide +kernel
theorem dX12_mean_105 : decode cX12_mean 105 = .ok (.iadd, 1) := by decide +kernel
theorem dX12_mean_106 : decode cX12_mean 106 = .ok (.invokevirtual 482, 3) := by decide +kernel
theorem dX12_mean_109 : decode cX12_mean 109 = .ok (.lload_n 3, 1) := by decide +kernel
theorem dX12_mean_110 : decode cX12_mean 110 = .ok (.aload_n 0, 1) := by decide +kernel
theorem dX12_mean_111 : decode cX12_mean 111 = .ok (.getfield 7, 3) := by decide +kernel
theorem dX12_mean_114 : decode cX12_mean 114 = .ok (.bipush 11, 2) := by decide +kernel
theorem dX12_mean_116 : decode cX12_mean 116 = .ok (.iaload, 1) := by decide +kernel
theorem dX12_mean_117 : decode cX12_mean 117 = .ok (.i2l, 1) := by decide +kernel
theorem dX12_mean_118 : decode cX12_mean 118 = .ok (.ladd, 1) := by decide +kernel
theorem dX12_mean_119 : decode cX12_mean 119 = .ok (.lstore_n 3, 1) := by decide +kernel
theorem dX12_mean_120 : decode cX12_mean 120 = .ok (.iconst 0, 1) := by decide +kernel
theorem dX12_mean_121 : decode cX12_mean 121 = .ok (.istore 6, 2) := by decide +kernel
theorem dX12_mean_123 : decode cX12_mean 123 = .ok (.iload 6, 2) := by decide +kernel
theorem dX12_mean_125 : decode cX12_mean 125 = .ok (.sipush 259, 3) := by decide +kernel
theorem dX12_mean_128 : decode cX12_mean 128 = .ok (.if_icmp .ge 27, 3) := by decide +kernel
theorem dX12_mean_131 : decode cX12_mean 131 = .ok (.aload_n 0, 1) := by decide +kernel
theorem dX12_mean_132 : decode cX12_mean 132 = .ok (.getfield 7, 3) := by decide +kernel
theorem dX12_mean_135 : decode cX12_mean 135 = .ok (.iload 6, 2) := by decide +kernel
theorem dX12_mean_137 : decode cX12_mean 137 = .ok (.aload_n 0, 1) := by decide +kernel
theorem dX12_mean_138 : decode cX12_mean 138 = .ok (.getfield 7, 3) := by decide +kernel
theorem dX12_mean_141 : decode cX12_mean 141 = .ok (.sipush 3130, 3) := by decide +kernel
theorem dX12_mean_144 : decode cX12_mean 144 = .ok (.iload 6, 2) := by decide +kernel
theorem dX12_mean_146 : decode cX12_mean 146 = .ok (.iadd, 1) := by decide +kernel
theorem dX12_mean_147 : decode cX12_mean 147 = .ok (.iaload, 1) := by decide +kernel
theorem dX12_mean_148 : decode cX12_mean 148 = .ok (.iastore, 1) := by decide +kernel
theorem dX12_mean_149 : decode cX12_mean 149 = .ok (.iinc 6 1, 3) := by decide +kernel
theorem dX12_mean_152 : decode cX12_mean 152 = .ok (.goto (-29), 3) := by decide +kernel
theorem dX12_mean_155 : decode cX12_mean 155 = .ok (.iinc 5 1, 3) := by decide +kernel
theorem dX12_mean_158 : decode cX12_mean 158 = .ok (.goto (-63), 3) := by decide +kernel
theorem dX12_mean_161 : decode cX12_mean 161 = .ok (.aload_n 0, 1) := by decide +kernel
theorem dX12_mean_162 : decode cX12_mean 162 = .ok (.lload_n 3, 1) := by decide +kernel
theorem dX12_mean_163 : decode cX12_mean 163 = .ok (.iload_n 2, 1) := by decide +kernel
theorem dX12_mean_164 : decode cX12_mean 164 = .ok (.i2l, 1) := by decide +kernel
theorem dX12_mean_165 : decode cX12_mean 165 = .ok (.invokevirtual 359, 3) := by decide +kernel
theorem dX12_mean_168 : decode cX12_mean 168 = .ok (.ireturn, 1) := by decide +kernel
noncomputable def fX12_mean_j35 (rf : Nat → Nat → Nat) (a0 : Nat) (μ0 : o_Mem) : Option (Int32 × o_Mem) :=
  o_bd (fX12_is rf a0 1 μ0) fun r1 μ1 =>
  some (r1, μ1)
noncomputable def fX12_mean_s61 (rf : Nat → Nat → Nat) (a0 : Nat) (x1 : Int32) (x2 : Int32) (τ61 : Int32) (μ0 : o_Mem) : Option ((Nat × (Int32)) × o_Mem) :=
  if 259 ≤ τ61 then (
    some ((90, 0), μ0))
  else (
    o_ck (0 ≤ (τ61).toInt ∧ (τ61).toInt < 3756) <|
    o_ck (0 ≤ ((3130 + τ61)).toInt ∧ ((3130 + τ61)).toInt < 3756) <|
    o_seq (o_wI μ0 (rf a0 0) (((3130 + τ61)).toNatClampNeg) (μ0.1 (rf a0 0) τ61.toNatClampNeg)) fun μ1 =>
    some ((61, (τ61 + 1)), μ1))
noncomputable def fX12_mean_s123 (rf : Nat → Nat → Nat) (a0 : Nat) (x1 : Int32) (x2 : Int32) (x3 : Int64) (x5 : Int32) (τ123 : Int32) (μ0 : o_Mem) : Option ((Nat × (Int32)) × o_Mem) :=
  if 259 ≤ τ123 then (
    some ((155, 0), μ0))
  else (
    o_ck (0 ≤ ((3130 + τ123)).toInt ∧ ((3130 + τ123)).toInt < 3756) <|
    o_ck (0 ≤ (τ123).toInt ∧ (τ123).toInt < 3756) <|
    o_seq (o_wI μ0 (rf a0 0) τ123.toNatClampNeg (μ0.1 (rf a0 0) ((3130 + τ123)).toNatClampNeg)) fun μ1 =>
    some ((123, (τ123 + 1)), μ1))
noncomputable def fX12_mean_s95 (rf : Nat → Nat → Nat) (a0 : Nat) (x1 : Int32) (x2 : Int32) (τ95 : Int64 × Int32) (μ0 : o_Mem) : Option ((Nat × (Int64 × Int32)) × o_Mem) :=
  if x2 ≤ τ95.2 then (
    some ((161, (τ95.1, 0)), μ0))
  else (
    o_bd (fX12_lives rf a0 (x1 + τ95.2) μ0) fun _u μ1 =>
    o_bd (o_lp 123 (fX12_mean_s123 rf a0 x1 x2 (τ95.1 + (μ1.1 (rf a0 0) 11).toInt64) τ95.2) o_fuel (0 : Int32) μ1) fun ex2 μ2 =>
    if ex2.1 = 155 then (
      some ((95, ((τ95.1 + (μ1.1 (rf a0 0) 11).toInt64), (τ95.2 + 1))), μ2))
    else
      none)
noncomputable def fX12_mean (rf : Nat → Nat → Nat) (a0 : Nat) (x1 : Int32) (x2 : Int32) (μ0 : o_Mem) : Option (Int32 × o_Mem) :=
  o_bd (fX12_isFrom rf x1.toInt64 (0 : Int64) (9999 : Int64) μ0) fun r1 μ1 =>
  if r1 = 0 then (
    fX12_mean_j35 rf a0 μ1)
  else (
    o_bd (fX12_isFrom rf x2.toInt64 (1 : Int64) (20 : Int64) μ1) fun r2 μ2 =>
    if r2 = 0 then (
      fX12_mean_j35 rf a0 μ2)
    else (
      if ((x1 + x2) - 1) ≤ 9999 then (
        if (μ2.1 (rf a0 0) 12) = (-1) then (
          o_bd (fX12_is rf a0 6 μ2) fun r4 μ6 =>
          some (r4, μ6))
        else (
          o_bd (o_lp 61 (fX12_mean_s61 rf a0 x1 x2) o_fuel (0 : Int32) μ2) fun ex3 μ3 =>
          if ex3.1 = 90 then (
            o_bd (o_lp 95 (fX12_mean_s95 rf a0 x1 x2) o_fuel ((0 : Int64), 0) μ3) fun ex4 μ4 =>
            if ex4.1 = 161 then (
              o_bd (fX12_tellsBy rf a0 ex4.2.1 x2.toInt64 μ4) fun r3 μ5 =>
              some (r3, μ5))
            else
              none)
          else
            none))
      else (
        fX12_mean_j35 rf a0 μ2)))
set_option maxRecDepth 20000 in
theorem dnX12_mean_j35 {X : o_Cx} (hX : o_ok X) {d : Nat} {a0 : Nat} {μ0 : o_Mem} {q : Int32 → o_Mem → Prop} (h0 : o_is X a0 (.inl 12)) (h : o_Post (fX12_mean_j35 (o_rf X) a0 μ0) q) : o_Ev X (d + 11) mX12_mean 35 [some (.ref (o_ad X a0)), none, none, none, none, none, none] [] μ0 (o_QZ q) := by
  unfold fX12_mean_j35 at h
  refine s_aload_n (i := 0) dX12_mean_35 rfl rfl ?_
  refine s_iconst dX12_mean_36 kI_1 ?_
  refine s_callVz (C := mX12_is) (As := [.int 1]) (rest := []) (L0 := [some (.ref (o_ad X a0)), some (.int 1)]) hX h0 clX12_94 dX12_mean_37 rfl rfl (Nat.le_of_ble_eq_true rfl) (Nat.le_of_ble_eq_true rfl) (dnX12_is hX h0 (o_bdp h)) (fun r1 μ1 zr1 h => ?_)
  exact s_zreturn rfl zr1 dX12_mean_40 ⟨_, rfl, zr1, o_ret h⟩
set_option maxRecDepth 20000 in
theorem dnX12_mean_s61 {X : o_Cx} (hX : o_ok X) {d : Nat} {a0 : Nat} {x1 : Int32} {x2 : Int32} {τ61 : Int32} {μ0 : o_Mem} {K : (Nat × (Int32)) → o_Mem → Prop} {Q : Option Value → o_Mem → Prop} (h0 : o_is X a0 (.inl 12)) (h : o_Post (fX12_mean_s61 (o_rf X) a0 x1 x2 τ61 μ0) K) (kh : ∀ (τ61 : Int32) (μ : o_Mem), K (61, τ61) μ → o_Ev X (d + 11) mX12_mean 61 [some (.ref (o_ad X a0)), some (.int x1), some (.int x2), some (.int τ61), none, none, none] [] μ Q) (k90 : ∀ (τ61 : Int32) (μ : o_Mem), K (90, τ61) μ → o_Ev X (d + 11) mX12_mean 90 [some (.ref (o_ad X a0)), some (.int x1), some (.int x2), none, none, none, none] [] μ Q) : o_Ev X (d + 11) mX12_mean 61 [some (.ref (o_ad X a0)), some (.int x1), some (.int x2), some (.int τ61), none, none, none] [] μ0 Q := by
  unfold fX12_mean_s61 at h
  refine s_iload_n (i := 3) dX12_mean_61 rfl rfl ?_
  refine s_sipush dX12_mean_62 kS_259 ?_
  refine s_icmp_ge (tgt := 90) dX12_mean_65 rfl (fun c1 => ?_) (fun c1 => ?_)
  · have h := o_if_t c1 h
    refine s_mask [true, true, true, false, false, false, false] (L' := [some (.ref (o_ad X a0)), some (.int x1), some (.int x2), none, none, none, none]) rfl ?_
    exact k90 0 _ (o_ret h)
  · have h := o_if_f c1 h
    refine s_aload_n (i := 0) dX12_mean_68 rfl rfl ?_
    refine s_getR hX h0 flX12_7 rfl dX12_mean_69 (fun (g1 : o_is X (o_rf X a0 0) (.inr (0, 3756))) => ?_)
    refine s_sipush dX12_mean_72 kS_3130 ?_
    refine s_iload_n (i := 3) dX12_mean_75 rfl rfl ?_
    refine s_iadd dX12_mean_76 ?_
    refine s_aload_n (i := 0) dX12_mean_77 rfl rfl ?_
    refine s_getR hX h0 flX12_7 rfl dX12_mean_78 (fun (g2 : o_is X (o_rf X a0 0) (.inr (0, 3756))) => ?_)
    refine s_iload_n (i := 3) dX12_mean_81 rfl rfl ?_
    have hc := o_ck_c h
    have h := o_ck_k h
    refine s_ialdK g2 hc rfl dX12_mean_82 ?_
    have hc := o_ck_c h
    have h := o_ck_k h
    refine s_iastK hX g1 hc rfl dX12_mean_83 (o_gen h (fun μ1 h => ?_))
    refine s_iinc (v := (τ61 + 1)) dX12_mean_84 rfl rfl (Nat.le_of_ble_eq_true rfl) rfl ?_
    refine s_goto (tgt := 61) dX12_mean_87 rfl ?_
    refine s_mask [true, true, true, true, false, false, false] (L' := [some (.ref (o_ad X a0)), some (.int x1), some (.int x2), some (.int (τ61 + 1)), none, none, none]) rfl ?_
    exact kh (τ61 + 1) _ (o_ret h)
set_option maxRecDepth 20000 in
theorem dnX12_mean_s123 {X : o_Cx} (hX : o_ok X) {d : Nat} {a0 : Nat} {x1 : Int32} {x2 : Int32} {x3 : Int64} {x5 : Int32} {τ123 : Int32} {μ0 : o_Mem} {K : (Nat × (Int32)) → o_Mem → Prop} {Q : Option Value → o_Mem → Prop} (h0 : o_is X a0 (.inl 12)) (h : o_Post (fX12_mean_s123 (o_rf X) a0 x1 x2 x3 x5 τ123 μ0) K) (kh : ∀ (τ123 : Int32) (μ : o_Mem), K (123, τ123) μ → o_Ev X (d + 11) mX12_mean 123 [some (.ref (o_ad X a0)), some (.int x1), some (.int x2), some (.long x3), none, some (.int x5), some (.int τ123)] [] μ Q) (k155 : ∀ (τ123 : Int32) (μ : o_Mem), K (155, τ123) μ → o_Ev X (d + 11) mX12_mean 155 [some (.ref (o_ad X a0)), some (.int x1), some (.int x2), some (.long x3), none, some (.int x5), none] [] μ Q) : o_Ev X (d + 11) mX12_mean 123 [some (.ref (o_ad X a0)), some (.int x1), some (.int x2), some (.long x3), none, some (.int x5), some (.int τ123)] [] μ0 Q := by
  unfold fX12_mean_s123 at h
  refine s_iload dX12_mean_123 rfl ?_
  refine s_sipush dX12_mean_125 kS_259 ?_
  refine s_icmp_ge (tgt := 155) dX12_mean_128 rfl (fun c1 => ?_) (fun c1 => ?_)
  · have h := o_if_t c1 h
    refine s_mask [true, true, true, true, false, true, false] (L' := [some (.ref (o_ad X a0)), some (.int x1), some (.int x2), some (.long x3), none, some (.int x5), none]) rfl ?_
    exact k155 0 _ (o_ret h)
  · have h := o_if_f c1 h
    refine s_aload_n (i := 0) dX12_mean_131 rfl rfl ?_
    refine s_getR hX h0 flX12_7 rfl dX12_mean_132 (fun (g1 : o_is X (o_rf X a0 0) (.inr (0, 3756))) => ?_)
    refine s_iload dX12_mean_135 rfl ?_
    refine s_aload_n (i := 0) dX12_mean_137 rfl rfl ?_
    refine s_getR hX h0 flX12_7 rfl dX12_mean_138 (fun (g2 : o_is X (o_rf X a0 0) (.inr (0, 3756))) => ?_)
    refine s_sipush dX12_mean_141 kS_3130 ?_
    refine s_iload dX12_mean_144 rfl ?_
    refine s_iadd dX12_mean_146 ?_
    have hc := o_ck_c h
    have h := o_ck_k h
    refine s_ialdK g2 hc rfl dX12_mean_147 ?_
    have hc := o_ck_c h
    have h := o_ck_k h
    refine s_iastK hX g1 hc rfl dX12_mean_148 (o_gen h (fun μ1 h => ?_))
    refine s_iinc (v := (τ123 + 1)) dX12_mean_149 rfl rfl (Nat.le_of_ble_eq_true rfl) rfl ?_
    refine s_goto (tgt := 123) dX12_mean_152 rfl ?_
    refine s_mask [true, true, true, true, false, true, true] (L' := [some (.ref (o_ad X a0)), some (.int x1), some (.int x2), some (.long x3), none, some (.int x5), some (.int (τ123 + 1))]) rfl ?_
    exact kh (τ123 + 1) _ (o_ret h)
set_option maxRecDepth 20000 in
theorem dnX12_mean_s95 {X : o_Cx} (hX : o_ok X) {d : Nat} {a0 : Nat} {x1 : Int32} {x2 : Int32} {τ95 : Int64 × Int32} {μ0 : o_Mem} {K : (Nat × (Int64 × Int32)) → o_Mem → Prop} {Q : Option Value → o_Mem → Prop} (h0 : o_is X a0 (.inl 12)) (h : o_Post (fX12_mean_s95 (o_rf X) a0 x1 x2 τ95 μ0) K) (kh : ∀ (τ95 : Int64 × Int32) (μ : o_Mem), K (95, τ95) μ → o_Ev X (d + 11) mX12_mean 95 [some (.ref (o_ad X a0)), some (.int x1), some (.int x2), some (.long τ95.1), none, some (.int τ95.2), none] [] μ Q) (k161 : ∀ (τ95 : Int64 × Int32) (μ : o_Mem), K (161, τ95) μ → o_Ev X (d + 11) mX12_mean 161 [some (.ref (o_ad X a0)), none, some (.int x2), some (.long τ95.1), none, none, none] [] μ Q) : o_Ev X (d + 11) mX12_mean 95 [some (.ref (o_ad X a0)), some (.int x1), some (.int x2), some (.long τ95.1), none, some (.int τ95.2), none] [] μ0 Q := by
  unfold fX12_mean_s95 at h
  refine s_iload dX12_mean_95 rfl ?_
  refine s_iload_n (i := 2) dX12_mean_97 rfl rfl ?_
  refine s_icmp_ge (tgt := 161) dX12_mean_98 rfl (fun c1 => ?_) (fun c1 => ?_)
  · have h := o_if_t c1 h
    refine s_mask [true, false, true, true, false, false, false] (L' := [some (.ref (o_ad X a0)), none, some (.int x2), some (.long τ95.1), none, none, none]) rfl ?_
    exact k161 (τ95.1, 0) _ (o_ret h)
  · have h := o_if_f c1 h
    refine s_aload_n (i := 0) dX12_mean_101 rfl rfl ?_
    refine s_iload_n (i := 1) dX12_mean_102 rfl rfl ?_
    refine s_iload dX12_mean_103 rfl ?_
    refine s_iadd dX12_mean_105 ?_
    refine s_callVu (C := mX12_lives) (As := [.int (x1 + τ95.2)]) (rest := []) (L0 := [some (.ref (o_ad X a0)), some (.int (x1 + τ95.2)), none, none]) hX h0 clX12_482 dX12_mean_106 rfl rfl (Nat.le_of_ble_eq_true rfl) (Nat.le_of_ble_eq_true rfl) (dnX12_lives hX h0 (o_bdp h)) (fun _u μ1 h => ?_)
    refine s_lload_n (i := 3) dX12_mean_109 rfl rfl ?_
    refine s_aload_n (i := 0) dX12_mean_110 rfl rfl ?_
    refine s_getR hX h0 flX12_7 rfl dX12_mean_111 (fun (g1 : o_is X (o_rf X a0 0) (.inr (0, 3756))) => ?_)
    refine s_bipush dX12_mean_114 kB_11 ?_
    refine s_ialdK g1 ⟨by decide, by decide⟩ kN_11 dX12_mean_116 ?_
    refine s_i2l dX12_mean_117 ?_
    refine s_ladd dX12_mean_118 ?_
    refine s_lstore_n (i := 3) dX12_mean_119 rfl (Nat.le_of_ble_eq_true rfl) rfl ?_
    refine s_iconst dX12_mean_120 kI_0 ?_
    refine s_istore dX12_mean_121 (Nat.le_of_ble_eq_true rfl) rfl ?_
    refine s_mask [true, true, true, true, false, true, true] (L' := [some (.ref (o_ad X a0)), some (.int x1), some (.int x2), some (.long (τ95.1 + (μ1.1 (o_rf X a0 0) 11).toInt64)), none, some (.int τ95.2), some (.int 0)]) rfl ?_
    refine o_lp_ev (fun τ123 => [some (.ref (o_ad X a0)), some (.int x1), some (.int x2), some (.long (τ95.1 + (μ1.1 (o_rf X a0 0) 11).toInt64)), none, some (.int τ95.2), some (.int τ123)]) (fun τ123 μ _K h kv ke123 => dnX12_mean_s123 hX h0 h kv (fun τ123 μ2 h => ?_)) o_fuel 0 μ1 (o_bdp h)
    · have h := o_if_t rfl (ke123 (155, τ123) μ2 (o_ne rfl) h)
      refine s_iinc (v := (τ95.2 + 1)) dX12_mean_155 rfl rfl (Nat.le_of_ble_eq_true rfl) rfl ?_
      refine s_goto (tgt := 95) dX12_mean_158 rfl ?_
      refine s_mask [true, true, true, true, false, true, false] (L' := [some (.ref (o_ad X a0)), some (.int x1), some (.int x2), some (.long (τ95.1 + (μ1.1 (o_rf X a0 0) 11).toInt64)), none, some (.int (τ95.2 + 1)), none]) rfl ?_
      exact kh ((τ95.1 + (μ1.1 (o_rf X a0 0) 11).toInt64), (τ95.2 + 1)) _ (o_ret h)
set_option maxRecDepth 20000 in
theorem dnX12_mean {X : o_Cx} (hX : o_ok X) {d : Nat} {a0 : Nat} {x1 : Int32} {x2 : Int32} {μ0 : o_Mem} {q : Int32 → o_Mem → Prop} (h0 : o_is X a0 (.inl 12)) (h : o_Post (fX12_mean (o_rf X) a0 x1 x2 μ0) q) : o_Ev X (d + 11) mX12_mean 0 [some (.ref (o_ad X a0)), some (.int x1), some (.int x2), none, none, none, none] [] μ0 (o_QZ q) := by
  unfold fX12_mean at h
  refine s_iload_n (i := 1) dX12_mean_0 rfl rfl ?_
  refine s_i2l dX12_mean_1 ?_
  refine s_lconst (v := 0) dX12_mean_2 rfl ?_
  refine s_ldc2 (v := 9999) w_9_99 dX12_mean_3 ?_
  refine s_callSz (C := mX12_isFrom) (As := [.long x1.toInt64, .long (0 : Int64), .long (9999 : Int64)]) (rest := []) (L0 := [some (.long x1.toInt64), none, some (.long (0 : Int64)), none, some (.long (9999 : Int64)), none]) clX12_348 dX12_mean_6 rfl rfl (Nat.le_of_ble_eq_true rfl) (Nat.le_of_ble_eq_true rfl) (dnX12_isFrom hX  (o_bdp h)) (fun r1 μ1 zr1 h => ?_)
  refine s_if_eq (tgt := 35) dX12_mean_9 rfl (fun c1 => ?_) (fun c1 => ?_)
  · have h := o_if_t c1 h
    refine s_mask [true, false, false, false, false, false, false] (L' := [some (.ref (o_ad X a0)), none, none, none, none, none, none]) rfl ?_
    exact dnX12_mean_j35 hX h0 h
  · have h := o_if_f c1 h
    refine s_iload_n (i := 2) dX12_mean_12 rfl rfl ?_
    refine s_i2l dX12_mean_13 ?_
    refine s_lconst (v := 1) dX12_mean_14 rfl ?_
    refine s_ldc2 (v := 20) w_9_145 dX12_mean_15 ?_
    refine s_callSz (C := mX12_isFrom) (As := [.long x2.toInt64, .long (1 : Int64), .long (20 : Int64)]) (rest := []) (L0 := [some (.long x2.toInt64), none, some (.long (1 : Int64)), none, some (.long (20 : Int64)), none]) clX12_348 dX12_mean_18 rfl rfl (Nat.le_of_ble_eq_true rfl) (Nat.le_of_ble_eq_true rfl) (dnX12_isFrom hX  (o_bdp h)) (fun r2 μ2 zr2 h => ?_)
    refine s_if_eq (tgt := 35) dX12_mean_21 rfl (fun c1 => ?_) (fun c1 => ?_)
    · have h := o_if_t c1 h
      refine s_mask [true, false, false, false, false, false, false] (L' := [some (.ref (o_ad X a0)), none, none, none, none, none, none]) rfl ?_
      exact dnX12_mean_j35 hX h0 h
    · have h := o_if_f c1 h
      refine s_iload_n (i := 1) dX12_mean_24 rfl rfl ?_
      refine s_iload_n (i := 2) dX12_mean_25 rfl rfl ?_
      refine s_iadd dX12_mean_26 ?_
      refine s_iconst dX12_mean_27 kI_1 ?_
      refine s_isub dX12_mean_28 ?_
      refine s_sipush dX12_mean_29 kS_9999 ?_
      refine s_icmp_le (tgt := 41) dX12_mean_32 rfl (fun c1 => ?_) (fun c1 => ?_)
      · have h := o_if_t c1 h
        refine s_aload_n (i := 0) dX12_mean_41 rfl rfl ?_
        refine s_getR hX h0 flX12_7 rfl dX12_mean_42 (fun (g1 : o_is X (o_rf X a0 0) (.inr (0, 3756))) => ?_)
        refine s_bipush dX12_mean_45 kB_12 ?_
        refine s_ialdK g1 ⟨by decide, by decide⟩ kN_12 dX12_mean_47 ?_
        refine s_iconst dX12_mean_48 kI_m1 ?_
        refine s_icmp_ne (tgt := 59) dX12_mean_49 rfl (fun c1 => ?_) (fun c1 => ?_)
        · have h := o_if_f c1 h
          refine s_iconst dX12_mean_59 kI_0 ?_
          refine s_istore_n (i := 3) dX12_mean_60 rfl (Nat.le_of_ble_eq_true rfl) rfl ?_
          refine s_mask [true, true, true, true, false, false, false] (L' := [some (.ref (o_ad X a0)), some (.int x1), some (.int x2), some (.int 0), none, none, none]) rfl ?_
          refine o_lp_ev (fun τ61 => [some (.ref (o_ad X a0)), some (.int x1), some (.int x2), some (.int τ61), none, none, none]) (fun τ61 μ _K h kv ke61 => dnX12_mean_s61 hX h0 h kv (fun τ61 μ3 h => ?_)) o_fuel 0 μ2 (o_bdp h)
          · have h := o_if_t rfl (ke61 (90, τ61) μ3 (o_ne rfl) h)
            refine s_lconst (v := 0) dX12_mean_90 rfl ?_
            refine s_lstore_n (i := 3) dX12_mean_91 rfl (Nat.le_of_ble_eq_true rfl) rfl ?_
            refine s_iconst dX12_mean_92 kI_0 ?_
            refine s_istore dX12_mean_93 (Nat.le_of_ble_eq_true rfl) rfl ?_
            refine s_mask [true, true, true, true, false, true, false] (L' := [some (.ref (o_ad X a0)), some (.int x1), some (.int x2), some (.long (0 : Int64)), none, some (.int 0), none]) rfl ?_
            refine o_lp_ev (fun τ95 => [some (.ref (o_ad X a0)), some (.int x1), some (.int x2), some (.long τ95.1), none, some (.int τ95.2), none]) (fun τ95 μ _K h kv ke95 => dnX12_mean_s95 hX h0 h kv (fun τ95 μ4 h => ?_)) o_fuel ((0 : Int64), 0) μ3 (o_bdp h)
            · have h := o_if_t rfl (ke95 (161, τ95) μ4 (o_ne rfl) h)
              refine s_aload_n (i := 0) dX12_mean_161 rfl rfl ?_
              refine s_lload_n (i := 3) dX12_mean_162 rfl rfl ?_
              refine s_iload_n (i := 2) dX12_mean_163 rfl rfl ?_
              refine s_i2l dX12_mean_164 ?_
              refine s_callVz (C := mX12_tellsBy) (As := [.long τ95.1, .long x2.toInt64]) (rest := []) (L0 := [some (.ref (o_ad X a0)), some (.long τ95.1), none, some (.long x2.toInt64), none, none, none, none, none, none, none]) hX h0 clX12_359 dX12_mean_165 rfl rfl (Nat.le_of_ble_eq_true rfl) (Nat.le_of_ble_eq_true rfl) (dnX12_tellsBy hX h0 (o_bdp h)) (fun r3 μ5 zr3 h => ?_)
              exact s_zreturn rfl zr3 dX12_mean_168 ⟨_, rfl, zr3, o_ret h⟩
        · have h := o_if_t c1 h
          refine s_aload_n (i := 0) dX12_mean_52 rfl rfl ?_
          refine s_bipush dX12_mean_53 kB_6 ?_
          refine s_callVz (C := mX12_is) (As := [.int 6]) (rest := []) (L0 := [some (.ref (o_ad X a0)), some (.int 6)]) hX h0 clX12_94 dX12_mean_55 rfl rfl (Nat.le_of_ble_eq_true rfl) (Nat.le_of_ble_eq_true rfl) (dnX12_is hX h0 (o_bdp h)) (fun r4 μ6 zr4 h => ?_)
          exact s_zreturn rfl zr4 dX12_mean_58 ⟨_, rfl, zr4, o_ret h⟩
      · have h := o_if_f c1 h
        refine s_mask [true, false, false, false, false, false, false] (L' := [some (.ref (o_ad X a0)), none, none, none, none, none, none]) rfl ?_
        exact dnX12_mean_j35 hX h0 h
theorem dX12_copies_0 : decode cX12_copies 0 = .ok (.iconst 0, 1) := by decide +kernel
theorem dX12_copies_1 : decode cX12_copies 1 = .ok (.istore_n 3, 1) := by decide +kernel
theorem dX12_copies_2 : decode cX12_copies 2 = .ok (.iload_n 3, 1) := by decide +kernel
theorem dX12_copies_3 : decode cX12_copies 3 = .ok (.sipush 626, 3) := by decide +kernel
theorem dX12_copies_6 : decode cX12_copies 6 = .ok (.if_icmp .ge 33, 3) := by decide +kernel
theorem dX12_copies_9 : decode cX12_copies 9 = .ok (.aload_n 0, 1) := by decide +kernel
theorem dX12_copies_10 : decode cX12_copies 10 = .ok (.getfield 7, 3) := by decide +kernel
theorem dX12_copies_13 : decode cX12_copies 13 = .ok (.sipush 626, 3) := by decide +kernel
theorem dX12_copies_16 : decode cX12_copies 16 = .ok (.iload_n 2, 1) := by decide +kernel
theorem dX12_copies_17 : decode cX12_copies 17 = .ok (.imul, 1) := by decide +kernel
theorem dX12_copies_18 : decode cX12_copies 18 = .ok (.iload_n 3, 1) := by decide +kernel
theorem dX12_copies_19 : decode cX12_copies 19 = .ok (.iadd, 1) := by decide +kernel
theorem dX12_copies_20 : decode cX12_copies 20 = .ok (.aload_n 0, 1) := by decide +kernel
theorem dX12_copies_21 : decode cX12_copies 21 = .ok (.getfield 7, 3) := by decide +kernel
theorem dX12_copies_24 : decode cX12_copies 24 = .ok (.sipush 626, 3) := by decide +kernel
theorem dX12_copies_27 : decode cX12_copies 27 = .ok (.iload_n 1, 1) := by decide +kernel
theorem dX12_copies_28 : decode cX12_copies 28 = .ok (.imul, 1) := by decide +kernel
theorem dX12_copies_29 : decode cX12_copies 29 = .ok (.iload_n 3, 1) := by decide +kernel
theorem dX12_copies_30 : decode cX12_copies 30 = .ok (.iadd, 1) := by decide +kernel
theorem dX12_copies_31 : decode cX12_copies 31 = .ok (.iaload, 1) := by decide +kernel
theorem dX12_copies_32 : decode cX12_copies 32 = .ok (.iastore, 1) := by decide +kernel
theorem dX12_copies_33 : decode cX12_copies 33 = .ok (.iinc 3 1, 3) := by decide +kernel
theorem dX12_copies_36 : decode cX12_copies 36 = .ok (.goto (-34), 3) := by decide +kernel
theorem dX12_copies_39 : decode cX12_copies 39 = .ok (.iconst 0, 1) := by decide +kernel
theorem dX12_copies_40 : decode cX12_copies 40 = .ok (.istore_n 3, 1) := by decide +kernel
theorem dX12_copies_41 : decode cX12_copies 41 = .ok (.iload_n 3, 1) := by decide +kernel
theorem dX12_copies_42 : decode cX12_copies 42 = .ok (.bipush 16, 2) := by decide +kernel
theorem dX12_copies_44 : decode cX12_copies 44 = .ok (.if_icmp .ge 31, 3) := by decide +kernel
theorem dX12_copies_47 : decode cX12_copies 47 = .ok (.aload_n 0, 1) := by decide +kernel
theorem dX12_copies_48 : decode cX12_copies 48 = .ok (.getfield 13, 3) := by decide +kernel
theorem dX12_copies_51 : decode cX12_copies 51 = .ok (.bipush 16, 2) := by decide +kernel
theorem dX12_copies_53 : decode cX12_copies 53 = .ok (.iload_n 2, 1) := by decide +kernel
theorem dX12_copies_54 : decode cX12_copies 54 = .ok (.imul, 1) := by decide +kernel
theorem dX12_copies_55 : decode cX12_copies 55 = .ok (.iload_n 3, 1) := by decide +kernel
theorem dX12_copies_56 : decode cX12_copies 56 = .ok (.iadd, 1) := by decide +kernel
theorem dX12_copies_57 : decode cX12_copies 57 = .ok (.aload_n 0, 1) := by decide +kernel
theorem dX12_copies_58 : decode cX12_copies 58 = .ok (.getfield 13, 3) := by decide +kernel
theorem dX12_copies_61 : decode cX12_copies 61 = .ok (.bipush 16, 2) := by decide +kernel
theorem dX12_copies_63 : decode cX12_copies 63 = .ok (.iload_n 1, 1) := by decide +kernel
theorem dX12_copies_64 : decode cX12_copies 64 = .ok (.imul, 1) := by decide +kernel
theorem dX12_copies_65 : decode cX12_copies 65 = .ok (.iload_n 3, 1) := by decide +kernel
theorem dX12_copies_66 : decode cX12_copies 66 = .ok (.iadd, 1) := by decide +kernel
theorem dX12_copies_67 : decode cX12_copies 67 = .ok (.laload, 1) := by decide +kernel
theorem dX12_copies_68 : decode cX12_copies 68 = .ok (.lastore, 1) := by decide +kernel
theorem dX12_copies_69 : decode cX12_copies 69 = .ok (.iinc 3 1, 3) := by decide +kernel
theorem dX12_copies_72 : decode cX12_copies 72 = .ok (.goto (-31), 3) := by decide +kernel
theorem dX12_copies_75 : decode cX12_copies 75 = .ok (.return_, 1) := by decide +kernel
noncomputable def fX12_copies_s2 (rf : Nat → Nat → Nat) (a0 : Nat) (x1 : Int32) (x2 : Int32) (τ2 : Int32) (μ0 : o_Mem) : Option ((Nat × (Int32)) × o_Mem) :=
  if 626 ≤ τ2 then (
    some ((39, 0), μ0))
  else (
    o_ck (0 ≤ (((626 * x1) + τ2)).toInt ∧ (((626 * x1) + τ2)).toInt < 3756) <|
    o_ck (0 ≤ (((626 * x2) + τ2)).toInt ∧ (((626 * x2) + τ2)).toInt < 3756) <|
    o_seq (o_wI μ0 (rf a0 0) ((((626 * x2) + τ2)).toNatClampNeg) (μ0.1 (rf a0 0) (((626 * x1) + τ2)).toNatClampNeg)) fun μ1 =>
    some ((2, (τ2 + 1)), μ1))
noncomputable def fX12_copies_s41 (rf : Nat → Nat → Nat) (a0 : Nat) (x1 : Int32) (x2 : Int32) (τ41 : Int32) (μ0 : o_Mem) : Option ((Nat × (Int32)) × o_Mem) :=
  if 16 ≤ τ41 then (
    some ((75, 0), μ0))
  else (
    o_ck (0 ≤ (((16 * x1) + τ41)).toInt ∧ (((16 * x1) + τ41)).toInt < 96) <|
    o_ck (0 ≤ (((16 * x2) + τ41)).toInt ∧ (((16 * x2) + τ41)).toInt < 96) <|
    o_seq (o_wL μ0 (rf a0 1) ((((16 * x2) + τ41)).toNatClampNeg) (μ0.2 (rf a0 1) (((16 * x1) + τ41)).toNatClampNeg)) fun μ1 =>
    some ((41, (τ41 + 1)), μ1))
noncomputable def fX12_copies (rf : Nat → Nat → Nat) (a0 : Nat) (x1 : Int32) (x2 : Int32) (μ0 : o_Mem) : Option (Unit × o_Mem) :=
  o_bd (o_lp 2 (fX12_copies_s2 rf a0 x1 x2) o_fuel (0 : Int32) μ0) fun ex1 μ1 =>
  if ex1.1 = 39 then (
    o_bd (o_lp 41 (fX12_copies_s41 rf a0 x1 x2) o_fuel (0 : Int32) μ1) fun ex2 μ2 =>
    if ex2.1 = 75 then (
      some ((), μ2))
    else
      none)
  else
    none
set_option maxRecDepth 20000 in
theorem dnX12_copies_s2 {X : o_Cx} (hX : o_ok X) {d : Nat} {a0 : Nat} {x1 : Int32} {x2 : Int32} {τ2 : Int32} {μ0 : o_Mem} {K : (Nat × (Int32)) → o_Mem → Prop} {Q : Option Value → o_Mem → Prop} (h0 : o_is X a0 (.inl 12)) (h : o_Post (fX12_copies_s2 (o_rf X) a0 x1 x2 τ2 μ0) K) (kh : ∀ (τ2 : Int32) (μ : o_Mem), K (2, τ2) μ → o_Ev X (d + 0) mX12_copies 2 [some (.ref (o_ad X a0)), some (.int x1), some (.int x2), some (.int τ2)] [] μ Q) (k39 : ∀ (τ2 : Int32) (μ : o_Mem), K (39, τ2) μ → o_Ev X (d + 0) mX12_copies 39 [some (.ref (o_ad X a0)), some (.int x1), some (.int x2), none] [] μ Q) : o_Ev X (d + 0) mX12_copies 2 [some (.ref (o_ad X a0)), some (.int x1), some (.int x2), some (.int τ2)] [] μ0 Q := by
  unfold fX12_copies_s2 at h
  refine s_iload_n (i := 3) dX12_copies_2 rfl rfl ?_
  refine s_sipush dX12_copies_3 kS_626 ?_
  refine s_icmp_ge (tgt := 39) dX12_copies_6 rfl (fun c1 => ?_) (fun c1 => ?_)
  · have h := o_if_t c1 h
    refine s_mask [true, true, true, false] (L' := [some (.ref (o_ad X a0)), some (.int x1), some (.int x2), none]) rfl ?_
    exact k39 0 _ (o_ret h)
  · have h := o_if_f c1 h
    refine s_aload_n (i := 0) dX12_copies_9 rfl rfl ?_
    refine s_getR hX h0 flX12_7 rfl dX12_copies_10 (fun (g1 : o_is X (o_rf X a0 0) (.inr (0, 3756))) => ?_)
    refine s_sipush dX12_copies_13 kS_626 ?_
    refine s_iload_n (i := 2) dX12_copies_16 rfl rfl ?_
    refine s_imul dX12_copies_17 ?_
    refine s_iload_n (i := 3) dX12_copies_18 rfl rfl ?_
    refine s_iadd dX12_copies_19 ?_
    refine s_aload_n (i := 0) dX12_copies_20 rfl rfl ?_
    refine s_getR hX h0 flX12_7 rfl dX12_copies_21 (fun (g2 : o_is X (o_rf X a0 0) (.inr (0, 3756))) => ?_)
    refine s_sipush dX12_copies_24 kS_626 ?_
    refine s_iload_n (i := 1) dX12_copies_27 rfl rfl ?_
    refine s_imul dX12_copies_28 ?_
    refine s_iload_n (i := 3) dX12_copies_29 rfl rfl ?_
    refine s_iadd dX12_copies_30 ?_
    have hc := o_ck_c h
    have h := o_ck_k h
    refine s_ialdK g2 hc rfl dX12_copies_31 ?_
    have hc := o_ck_c h
    have h := o_ck_k h
    refine s_iastK hX g1 hc rfl dX12_copies_32 (o_gen h (fun μ1 h => ?_))
    refine s_iinc (v := (τ2 + 1)) dX12_copies_33 rfl rfl (Nat.le_of_ble_eq_true rfl) rfl ?_
    refine s_goto (tgt := 2) dX12_copies_36 rfl ?_
    refine s_mask [true, true, true, true] (L' := [some (.ref (o_ad X a0)), some (.int x1), some (.int x2), some (.int (τ2 + 1))]) rfl ?_
    exact kh (τ2 + 1) _ (o_ret h)
set_option maxRecDepth 20000 in
theorem dnX12_copies_s41 {X : o_Cx} (hX : o_ok X) {d : Nat} {a0 : Nat} {x1 : Int32} {x2 : Int32} {τ41 : Int32} {μ0 : o_Mem} {K : (Nat × (Int32)) → o_Mem → Prop} {Q : Option Value → o_Mem → Prop} (h0 : o_is X a0 (.inl 12)) (h : o_Post (fX12_copies_s41 (o_rf X) a0 x1 x2 τ41 μ0) K) (kh : ∀ (τ41 : Int32) (μ : o_Mem), K (41, τ41) μ → o_Ev X (d + 0) mX12_copies 41 [some (.ref (o_ad X a0)), some (.int x1), some (.int x2), some (.int τ41)] [] μ Q) (k75 : ∀ (τ41 : Int32) (μ : o_Mem), K (75, τ41) μ → o_Ev X (d + 0) mX12_copies 75 [none, none, none, none] [] μ Q) : o_Ev X (d + 0) mX12_copies 41 [some (.ref (o_ad X a0)), some (.int x1), some (.int x2), some (.int τ41)] [] μ0 Q := by
  unfold fX12_copies_s41 at h
  refine s_iload_n (i := 3) dX12_copies_41 rfl rfl ?_
  refine s_bipush dX12_copies_42 kB_16 ?_
  refine s_icmp_ge (tgt := 75) dX12_copies_44 rfl (fun c1 => ?_) (fun c1 => ?_)
  · have h := o_if_t c1 h
    refine s_mask [false, false, false, false] (L' := [none, none, none, none]) rfl ?_
    exact k75 0 _ (o_ret h)
  · have h := o_if_f c1 h
    refine s_aload_n (i := 0) dX12_copies_47 rfl rfl ?_
    refine s_getR hX h0 flX12_13 rfl dX12_copies_48 (fun (g1 : o_is X (o_rf X a0 1) (.inr (2, 96))) => ?_)
    refine s_bipush dX12_copies_51 kB_16 ?_
    refine s_iload_n (i := 2) dX12_copies_53 rfl rfl ?_
    refine s_imul dX12_copies_54 ?_
    refine s_iload_n (i := 3) dX12_copies_55 rfl rfl ?_
    refine s_iadd dX12_copies_56 ?_
    refine s_aload_n (i := 0) dX12_copies_57 rfl rfl ?_
    refine s_getR hX h0 flX12_13 rfl dX12_copies_58 (fun (g2 : o_is X (o_rf X a0 1) (.inr (2, 96))) => ?_)
    refine s_bipush dX12_copies_61 kB_16 ?_
    refine s_iload_n (i := 1) dX12_copies_63 rfl rfl ?_
    refine s_imul dX12_copies_64 ?_
    refine s_iload_n (i := 3) dX12_copies_65 rfl rfl ?_
    refine s_iadd dX12_copies_66 ?_
    have hc := o_ck_c h
    have h := o_ck_k h
    refine s_laldK g2 hc rfl dX12_copies_67 ?_
    have hc := o_ck_c h
    have h := o_ck_k h
    refine s_lastK hX g1 hc rfl dX12_copies_68 (o_gen h (fun μ1 h => ?_))
    refine s_iinc (v := (τ41 + 1)) dX12_copies_69 rfl rfl (Nat.le_of_ble_eq_true rfl) rfl ?_
    refine s_goto (tgt := 41) dX12_copies_72 rfl ?_
    refine s_mask [true, true, true, true] (L' := [some (.ref (o_ad X a0)), some (.int x1), some (.int x2), some (.int (τ41 + 1))]) rfl ?_
    exact kh (τ41 + 1) _ (o_ret h)
set_option maxRecDepth 20000 in
theorem dnX12_copies {X : o_Cx} (hX : o_ok X) {d : Nat} {a0 : Nat} {x1 : Int32} {x2 : Int32} {μ0 : o_Mem} {q : Unit → o_Mem → Prop} (h0 : o_is X a0 (.inl 12)) (h : o_Post (fX12_copies (o_rf X) a0 x1 x2 μ0) q) : o_Ev X (d + 0) mX12_copies 0 [some (.ref (o_ad X a0)), some (.int x1), some (.int x2), none] [] μ0 (o_QU q) := by
  unfold fX12_copies at h
  refine s_iconst dX12_copies_0 kI_0 ?_
  refine s_istore_n (i := 3) dX12_copies_1 rfl (Nat.le_of_ble_eq_true rfl) rfl ?_
  refine s_mask [true, true, true, true] (L' := [some (.ref (o_ad X a0)), some (.int x1), some (.int x2), some (.int 0)]) rfl ?_
  refine o_lp_ev (fun τ2 => [some (.ref (o_ad X a0)), some (.int x1), some (.int x2), some (.int τ2)]) (fun τ2 μ _K h kv ke2 => dnX12_copies_s2 hX h0 h kv (fun τ2 μ1 h => ?_)) o_fuel 0 μ0 (o_bdp h)
  · have h := o_if_t rfl (ke2 (39, τ2) μ1 (o_ne rfl) h)
    refine s_iconst dX12_copies_39 kI_0 ?_
    refine s_istore_n (i := 3) dX12_copies_40 rfl (Nat.le_of_ble_eq_true rfl) rfl ?_
    refine s_mask [true, true, true, true] (L' := [some (.ref (o_ad X a0)), some (.int x1), some (.int x2), some (.int 0)]) rfl ?_
    refine o_lp_ev (fun τ41 => [some (.ref (o_ad X a0)), some (.int x1), some (.int x2), some (.int τ41)]) (fun τ41 μ _K h kv ke41 => dnX12_copies_s41 hX h0 h kv (fun τ41 μ2 h => ?_)) o_fuel 0 μ1 (o_bdp h)
    · have h := o_if_t rfl (ke41 (75, τ41) μ2 (o_ne rfl) h)
      exact s_return rfl dX12_copies_75 ⟨rfl, o_ret h⟩
theorem dX12_mark_0 : decode cX12_mark 0 = .ok (.aload_n 0, 1) := by decide +kernel
theorem dX12_mark_1 : decode cX12_mark 1 = .ok (.getfield 490, 3) := by decide +kernel
theorem dX12_mark_4 : decode cX12_mark 4 = .ok (.iconst 3, 1) := by decide +kernel
theorem dX12_mark_5 : decode cX12_mark 5 = .ok (.if_icmp .ne 9, 3) := by decide +kernel
theorem dX12_mark_8 : decode cX12_mark 8 = .ok (.aload_n 0, 1) := by decide +kernel
theorem dX12_mark_9 : decode cX12_mark 9 = .ok (.iconst 4, 1) := by decide +kernel
theorem dX12_mark_10 : decode cX12_mark 10 = .ok (.invokevirtual 87, 3) := by decide +kernel
theorem dX12_mark_13 : decode cX12_mark 13 = .ok (.ireturn, 1) := by decide +kernel
theorem dX12_mark_14 : decode cX12_mark 14 = .ok (.aload_n 0, 1) := by decide +kernel
theorem dX12_mark_15 : decode cX12_mark 15 = .ok (.dup, 1) := by decide +kernel
theorem dX12_mark_16 : decode cX12_mark 16 = .ok (.getfield 490, 3) := by decide +kernel
theorem dX12_mark_19 : decode cX12_mark 19 = .ok (.iconst 1, 1) := by decide +kernel
theorem dX12_mark_20 : decode cX12_mark 20 = .ok (.iadd, 1) := by decide +kernel
theorem dX12_mark_21 : decode cX12_mark 21 = .ok (.putfield 490, 3) := by decide +kernel
theorem dX12_mark_24 : decode cX12_mark 24 = .ok (.aload_n 0, 1) := by decide +kernel
theorem dX12_mark_25 : decode cX12_mark 25 = .ok (.iconst 0, 1) := by decide +kernel
theorem dX12_mark_26 : decode cX12_mark 26 = .ok (.aload_n 0, 1) := by decide +kernel
theorem dX12_mark_27 : decode cX12_mark 27 = .ok (.getfield 490, 3) := by decide +kernel
theorem dX12_mark_30 : decode cX12_mark 30 = .ok (.invokevirtual 493, 3) := by decide +kernel
theorem dX12_mark_33 : decode cX12_mark 33 = .ok (.aload_n 0, 1) := by decide +kernel
theorem dX12_mark_34 : decode cX12_mark 34 = .ok (.aload_n 0, 1) := by decide +kernel
theorem dX12_mark_35 : decode cX12_mark 35 = .ok (.getfield 490, 3) := by decide +kernel
theorem dX12_mark_38 : decode cX12_mark 38 = .ok (.invokevirtual 91, 3) := by decide +kernel
theorem dX12_mark_41 : decode cX12_mark 41 = .ok (.ireturn, 1) := by decide +kernel
noncomputable def fX12_mark (rf : Nat → Nat → Nat) (a0 : Nat) (μ0 : o_Mem) : Option (Int32 × o_Mem) :=
  if (μ0.1 a0 38) = 3 then (
    o_bd (fX12_refuse rf a0 4 μ0) fun r2 μ4 =>
    some (r2, μ4))
  else (
    o_seq (o_wI μ0 a0 38 ((μ0.1 a0 38) + 1)) fun μ1 =>
    o_bd (fX12_copies rf a0 0 (μ1.1 a0 38) μ1) fun _u μ2 =>
    o_bd (fX12_gives rf a0 (μ2.1 a0 38) μ2) fun r1 μ3 =>
    some (r1, μ3))
set_option maxRecDepth 20000 in
theorem dnX12_mark {X : o_Cx} (hX : o_ok X) {d : Nat} {a0 : Nat} {μ0 : o_Mem} {q : Int32 → o_Mem → Prop} (h0 : o_is X a0 (.inl 12)) (h : o_Post (fX12_mark (o_rf X) a0 μ0) q) : o_Ev X (d + 1) mX12_mark 0 [some (.ref (o_ad X a0))] [] μ0 (o_QI q) := by
  unfold fX12_mark at h
  refine s_aload_n (i := 0) dX12_mark_0 rfl rfl ?_
  refine s_getI h0 flX12_490 rfl dX12_mark_1 ?_
  refine s_iconst dX12_mark_4 kI_3 ?_
  refine s_icmp_ne (tgt := 14) dX12_mark_5 rfl (fun c1 => ?_) (fun c1 => ?_)
  · have h := o_if_f c1 h
    refine s_aload_n (i := 0) dX12_mark_14 rfl rfl ?_
    refine s_dup dX12_mark_15 rfl ?_
    refine s_getI h0 flX12_490 rfl dX12_mark_16 ?_
    refine s_iconst dX12_mark_19 kI_1 ?_
    refine s_iadd dX12_mark_20 ?_
    refine s_putI hX h0 fwX12_490 rfl dX12_mark_21 (o_gen h (fun μ1 h => ?_))
    refine s_aload_n (i := 0) dX12_mark_24 rfl rfl ?_
    refine s_iconst dX12_mark_25 kI_0 ?_
    refine s_aload_n (i := 0) dX12_mark_26 rfl rfl ?_
    refine s_getI h0 flX12_490 rfl dX12_mark_27 ?_
    refine s_callVu (C := mX12_copies) (As := [.int 0, .int (μ1.1 a0 38)]) (rest := []) (L0 := [some (.ref (o_ad X a0)), some (.int 0), some (.int (μ1.1 a0 38)), none]) hX h0 clX12_493 dX12_mark_30 rfl rfl (Nat.le_of_ble_eq_true rfl) (Nat.le_of_ble_eq_true rfl) (dnX12_copies hX h0 (o_bdp h)) (fun _u μ2 h => ?_)
    refine s_aload_n (i := 0) dX12_mark_33 rfl rfl ?_
    refine s_aload_n (i := 0) dX12_mark_34 rfl rfl ?_
    refine s_getI h0 flX12_490 rfl dX12_mark_35 ?_
    refine s_callVi (C := mX12_gives) (As := [.int (μ2.1 a0 38)]) (rest := []) (L0 := [some (.ref (o_ad X a0)), some (.int (μ2.1 a0 38))]) hX h0 clX12_91 dX12_mark_38 rfl rfl (Nat.le_of_ble_eq_true rfl) (Nat.le_of_ble_eq_true rfl) (dnX12_gives hX h0 (o_bdp h)) (fun r1 μ3 h => ?_)
    exact s_ireturn rfl dX12_mark_41 ⟨_, rfl, o_ret h⟩
  · have h := o_if_t c1 h
    refine s_aload_n (i := 0) dX12_mark_8 rfl rfl ?_
    refine s_iconst dX12_mark_9 kI_4 ?_
    refine s_callVi (C := mX12_refuse) (As := [.int 4]) (rest := []) (L0 := [some (.ref (o_ad X a0)), some (.int 4)]) hX h0 clX12_87 dX12_mark_10 rfl rfl (Nat.le_of_ble_eq_true rfl) (Nat.le_of_ble_eq_true rfl) (dnX12_refuse hX h0 (o_bdp h)) (fun r2 μ4 h => ?_)
    exact s_ireturn rfl dX12_mark_13 ⟨_, rfl, o_ret h⟩
theorem dX12_undo_0 : decode cX12_undo 0 = .ok (.aload_n 0, 1) := by decide +kernel
theorem dX12_undo_1 : decode cX12_undo 1 = .ok (.getfield 490, 3) := by decide +kernel
theorem dX12_undo_4 : decode cX12_undo 4 = .ok (.ifCond .ne 10, 3) := by decide +kernel
theorem dX12_undo_7 : decode cX12_undo 7 = .ok (.aload_n 0, 1) := by decide +kernel
theorem dX12_undo_8 : decode cX12_undo 8 = .ok (.bipush 6, 2) := by decide +kernel
theorem dX12_undo_10 : decode cX12_undo 10 = .ok (.invokevirtual 87, 3) := by decide +kernel
theorem dX12_undo_13 : decode cX12_undo 13 = .ok (.ireturn, 1) := by decide +kernel
theorem dX12_undo_14 : decode cX12_undo 14 = .ok (.aload_n 0, 1) := by decide +kernel
theorem dX12_undo_15 : decode cX12_undo 15 = .ok (.aload_n 0, 1) := by decide +kernel
theorem dX12_undo_16 : decode cX12_undo 16 = .ok (.getfield 490, 3) := by decide +kernel
theorem dX12_undo_19 : decode cX12_undo 19 = .ok (.iconst 0, 1) := by decide +kernel
theorem dX12_undo_20 : decode cX12_undo 20 = .ok (.invokevirtual 493, 3) := by decide +kernel
theorem dX12_undo_23 : decode cX12_undo 23 = .ok (.aload_n 0, 1) := by decide +kernel
theorem dX12_undo_24 : decode cX12_undo 24 = .ok (.dup, 1) := by decide +kernel
theorem dX12_undo_25 : decode cX12_undo 25 = .ok (.getfield 490, 3) := by decide +kernel
theorem dX12_undo_28 : decode cX12_undo 28 = .ok (.iconst 1, 1) := by decide +kernel
theorem dX12_undo_29 : decode cX12_undo 29 = .ok (.isub, 1) := by decide +kernel
theorem dX12_undo_30 : decode cX12_undo 30 = .ok (.putfield 490, 3) := by decide +kernel
theorem dX12_undo_33 : decode cX12_undo 33 = .ok (.aload_n 0, 1) := by decide +kernel
theorem dX12_undo_34 : decode cX12_undo 34 = .ok (.aload_n 0, 1) := by decide +kernel
theorem dX12_undo_35 : decode cX12_undo 35 = .ok (.getfield 490, 3) := by decide +kernel
theorem dX12_undo_38 : decode cX12_undo 38 = .ok (.invokevirtual 91, 3) := by decide +kernel
theorem dX12_undo_41 : decode cX12_undo 41 = .ok (.ireturn, 1) := by decide +kernel
noncomputable def fX12_undo (rf : Nat → Nat → Nat) (a0 : Nat) (μ0 : o_Mem) : Option (Int32 × o_Mem) :=
  if (μ0.1 a0 38) = 0 then (
    o_bd (fX12_refuse rf a0 6 μ0) fun r2 μ4 =>
    some (r2, μ4))
  else (
    o_bd (fX12_copies rf a0 (μ0.1 a0 38) 0 μ0) fun _u μ1 =>
    o_seq (o_wI μ1 a0 38 ((μ1.1 a0 38) - 1)) fun μ2 =>
    o_bd (fX12_gives rf a0 (μ2.1 a0 38) μ2) fun r1 μ3 =>
    some (r1, μ3))
set_option maxRecDepth 20000 in
theorem dnX12_undo {X : o_Cx} (hX : o_ok X) {d : Nat} {a0 : Nat} {μ0 : o_Mem} {q : Int32 → o_Mem → Prop} (h0 : o_is X a0 (.inl 12)) (h : o_Post (fX12_undo (o_rf X) a0 μ0) q) : o_Ev X (d + 1) mX12_undo 0 [some (.ref (o_ad X a0))] [] μ0 (o_QI q) := by
  unfold fX12_undo at h
  refine s_aload_n (i := 0) dX12_undo_0 rfl rfl ?_
  refine s_getI h0 flX12_490 rfl dX12_undo_1 ?_
  refine s_if_ne (tgt := 14) dX12_undo_4 rfl (fun c1 => ?_) (fun c1 => ?_)
  · have h := o_if_f c1 h
    refine s_aload_n (i := 0) dX12_undo_14 rfl rfl ?_
    refine s_aload_n (i := 0) dX12_undo_15 rfl rfl ?_
    refine s_getI h0 flX12_490 rfl dX12_undo_16 ?_
    refine s_iconst dX12_undo_19 kI_0 ?_
    refine s_callVu (C := mX12_copies) (As := [.int (μ0.1 a0 38), .int 0]) (rest := []) (L0 := [some (.ref (o_ad X a0)), some (.int (μ0.1 a0 38)), some (.int 0), none]) hX h0 clX12_493 dX12_undo_20 rfl rfl (Nat.le_of_ble_eq_true rfl) (Nat.le_of_ble_eq_true rfl) (dnX12_copies hX h0 (o_bdp h)) (fun _u μ1 h => ?_)
    refine s_aload_n (i := 0) dX12_undo_23 rfl rfl ?_
    refine s_dup dX12_undo_24 rfl ?_
    refine s_getI h0 flX12_490 rfl dX12_undo_25 ?_
    refine s_iconst dX12_undo_28 kI_1 ?_
    refine s_isub dX12_undo_29 ?_
    refine s_putI hX h0 fwX12_490 rfl dX12_undo_30 (o_gen h (fun μ2 h => ?_))
    refine s_aload_n (i := 0) dX12_undo_33 rfl rfl ?_
    refine s_aload_n (i := 0) dX12_undo_34 rfl rfl ?_
    refine s_getI h0 flX12_490 rfl dX12_undo_35 ?_
    refine s_callVi (C := mX12_gives) (As := [.int (μ2.1 a0 38)]) (rest := []) (L0 := [some (.ref (o_ad X a0)), some (.int (μ2.1 a0 38))]) hX h0 clX12_91 dX12_undo_38 rfl rfl (Nat.le_of_ble_eq_true rfl) (Nat.le_of_ble_eq_true rfl) (dnX12_gives hX h0 (o_bdp h)) (fun r1 μ3 h => ?_)
    exact s_ireturn rfl dX12_undo_41 ⟨_, rfl, o_ret h⟩
  · have h := o_if_t c1 h
    refine s_aload_n (i := 0) dX12_undo_7 rfl rfl ?_
    refine s_bipush dX12_undo_8 kB_6 ?_
    refine s_callVi (C := mX12_refuse) (As := [.int 6]) (rest := []) (L0 := [some (.ref (o_ad X a0)), some (.int 6)]) hX h0 clX12_87 dX12_undo_10 rfl rfl (Nat.le_of_ble_eq_true rfl) (Nat.le_of_ble_eq_true rfl) (dnX12_refuse hX h0 (o_bdp h)) (fun r2 μ4 h => ?_)
    exact s_ireturn rfl dX12_undo_13 ⟨_, rfl, o_ret h⟩
