theorem dX4_isName_0 : decode cX4_isName 0 = .ok (.aload_n 0, 1) := by decide +kernel
theorem dX4_isName_1 : decode cX4_isName 1 = .ok (.getfield 46, 3) := by decide +kernel
theorem dX4_isName_4 : decode cX4_isName 4 = .ok (.iconst 1, 1) := by decide +kernel
theorem dX4_isName_5 : decode cX4_isName 5 = .ok (.if_icmp .ne 26, 3) := by decide +kernel
theorem dX4_isName_8 : decode cX4_isName 8 = .ok (.aload_n 0, 1) := by decide +kernel
theorem dX4_isName_9 : decode cX4_isName 9 = .ok (.getfield 43, 3) := by decide +kernel
theorem dX4_isName_12 : decode cX4_isName 12 = .ok (.iconst (-1), 1) := by decide +kernel
theorem dX4_isName_13 : decode cX4_isName 13 = .ok (.if_icmp .ne 18, 3) := by decide +kernel
theorem dX4_isName_16 : decode cX4_isName 16 = .ok (.aload_n 0, 1) := by decide +kernel
theorem dX4_isName_17 : decode cX4_isName 17 = .ok (.getfield 62, 3) := by decide +kernel
theorem dX4_isName_20 : decode cX4_isName 20 = .ok (.ldc2_w 68, 3) := by decide +kernel
theorem dX4_isName_23 : decode cX4_isName 23 = .ok (.lcmp, 1) := by decide +kernel
theorem dX4_isName_24 : decode cX4_isName 24 = .ok (.ifCond .eq 7, 3) := by decide +kernel
theorem dX4_isName_27 : decode cX4_isName 27 = .ok (.iconst 1, 1) := by decide +kernel
theorem dX4_isName_28 : decode cX4_isName 28 = .ok (.goto 4, 3) := by decide +kernel
theorem dX4_isName_31 : decode cX4_isName 31 = .ok (.iconst 0, 1) := by decide +kernel
theorem dX4_isName_32 : decode cX4_isName 32 = .ok (.ireturn, 1) := by decide +kernel
noncomputable def fX4_isName (rf : Nat → Nat → Nat) (a0 : Nat) (μ0 : o_Mem) : Option (Int32 × o_Mem) :=
  if (μ0.1 a0 7) = 1 then (
    if (μ0.1 a0 8) = (-1) then (
      if (μ0.2 a0 9) = ((-1) : Int64) then (
        some (0, μ0))
      else (
        some (1, μ0)))
    else (
      some (0, μ0)))
  else (
    some (0, μ0))
set_option maxRecDepth 20000 in
theorem dnX4_isName {X : o_Cx} (hX : o_ok X) {d : Nat} {a0 : Nat} {μ0 : o_Mem} {q : Int32 → o_Mem → Prop} (h0 : o_is X a0 (.inl 4)) (h : o_Post (fX4_isName (o_rf X) a0 μ0) q) : o_Ev X (d + 0) mX4_isName 0 [some (.ref (o_ad X a0))] [] μ0 (o_QZ q) := by
  unfold fX4_isName at h
  refine s_aload_n (i := 0) dX4_isName_0 rfl rfl ?_
  refine s_getI h0 flX4_46 rfl dX4_isName_1 ?_
  refine s_iconst dX4_isName_4 kI_1 ?_
  refine s_icmp_ne (tgt := 31) dX4_isName_5 rfl (fun c1 => ?_) (fun c1 => ?_)
  · have h := o_if_f c1 h
    refine s_iconst dX4_isName_31 kI_0 ?_
    exact s_zreturn rfl (Or.inl rfl) dX4_isName_32 ⟨_, rfl, (Or.inl rfl), o_ret h⟩
  · have h := o_if_t c1 h
    refine s_aload_n (i := 0) dX4_isName_8 rfl rfl ?_
    refine s_getI h0 flX4_43 rfl dX4_isName_9 ?_
    refine s_iconst dX4_isName_12 kI_m1 ?_
    refine s_icmp_ne (tgt := 31) dX4_isName_13 rfl (fun c1 => ?_) (fun c1 => ?_)
    · have h := o_if_f c1 h
      refine s_iconst dX4_isName_31 kI_0 ?_
      exact s_zreturn rfl (Or.inl rfl) dX4_isName_32 ⟨_, rfl, (Or.inl rfl), o_ret h⟩
    · have h := o_if_t c1 h
      refine s_aload_n (i := 0) dX4_isName_16 rfl rfl ?_
      refine s_getL h0 flX4_62 rfl dX4_isName_17 ?_
      refine s_ldc2 (v := (-1)) w_3_116 dX4_isName_20 ?_
      refine s_lif_eq (tgt := 31) dX4_isName_23 dX4_isName_24 rfl (fun c1 => ?_) (fun c1 => ?_)
      · have h := o_if_t c1 h
        refine s_iconst dX4_isName_31 kI_0 ?_
        exact s_zreturn rfl (Or.inl rfl) dX4_isName_32 ⟨_, rfl, (Or.inl rfl), o_ret h⟩
      · have h := o_if_f c1 h
        refine s_iconst dX4_isName_27 kI_1 ?_
        refine s_goto (tgt := 32) dX4_isName_28 rfl ?_
        exact s_zreturn rfl (Or.inr rfl) dX4_isName_32 ⟨_, rfl, (Or.inr rfl), o_ret h⟩
theorem dX8_manyOf_0 : decode cX8_manyOf 0 = .ok (.iload_n 1, 1) := by decide +kernel
theorem dX8_manyOf_1 : decode cX8_manyOf 1 = .ok (.lookupswitch 37 #[(0, 27), (1, 32)], 27) := by decide +kernel
theorem dX8_manyOf_28 : decode cX8_manyOf 28 = .ok (.aload_n 0, 1) := by decide +kernel
theorem dX8_manyOf_29 : decode cX8_manyOf 29 = .ok (.getfield 48, 3) := by decide +kernel
theorem dX8_manyOf_32 : decode cX8_manyOf 32 = .ok (.ireturn, 1) := by decide +kernel
theorem dX8_manyOf_33 : decode cX8_manyOf 33 = .ok (.aload_n 0, 1) := by decide +kernel
theorem dX8_manyOf_34 : decode cX8_manyOf 34 = .ok (.getfield 51, 3) := by decide +kernel
theorem dX8_manyOf_37 : decode cX8_manyOf 37 = .ok (.ireturn, 1) := by decide +kernel
theorem dX8_manyOf_38 : decode cX8_manyOf 38 = .ok (.aload_n 0, 1) := by decide +kernel
theorem dX8_manyOf_39 : decode cX8_manyOf 39 = .ok (.getfield 54, 3) := by decide +kernel
theorem dX8_manyOf_42 : decode cX8_manyOf 42 = .ok (.ireturn, 1) := by decide +kernel
noncomputable def fX8_manyOf (rf : Nat → Nat → Nat) (a0 : Nat) (x1 : Int32) (μ0 : o_Mem) : Option (Int32 × o_Mem) :=
  if x1 = 0 then (
    some ((μ0.1 a0 0), μ0))
  else
  if x1 = 1 then (
    some ((μ0.1 a0 1), μ0))
  else
    some ((μ0.1 a0 2), μ0)
set_option maxRecDepth 20000 in
theorem dnX8_manyOf {X : o_Cx} (hX : o_ok X) {d : Nat} {a0 : Nat} {x1 : Int32} {μ0 : o_Mem} {q : Int32 → o_Mem → Prop} (h0 : o_is X a0 (.inl 8)) (h : o_Post (fX8_manyOf (o_rf X) a0 x1 μ0) q) : o_Ev X (d + 0) mX8_manyOf 0 [some (.ref (o_ad X a0)), some (.int x1)] [] μ0 (o_QI q) := by
  unfold fX8_manyOf at h
  refine s_iload_n (i := 1) dX8_manyOf_0 rfl rfl ?_
  by_cases e0 : x1 = 0
  · have h := o_if_t e0 h
    refine s_lookup (off := 27) (tgt := 28) dX8_manyOf_1 (by decide) (by rw [e0]; decide) rfl ?_
    refine s_aload_n (i := 0) dX8_manyOf_28 rfl rfl ?_
    refine s_getI h0 flX8_48 rfl dX8_manyOf_29 ?_
    exact s_ireturn rfl dX8_manyOf_32 ⟨_, rfl, o_ret h⟩
  have h := o_if_f e0 h
  by_cases e1 : x1 = 1
  · have h := o_if_t e1 h
    refine s_lookup (off := 32) (tgt := 33) dX8_manyOf_1 (by decide) (by rw [e1]; decide) rfl ?_
    refine s_aload_n (i := 0) dX8_manyOf_33 rfl rfl ?_
    refine s_getI h0 flX8_51 rfl dX8_manyOf_34 ?_
    exact s_ireturn rfl dX8_manyOf_37 ⟨_, rfl, o_ret h⟩
  have h := o_if_f e1 h
  refine s_lookup (off := 37) (tgt := 38) dX8_manyOf_1 (by decide) ((lv_osw e0 (by decide)).trans ((lv_osw e1 (by decide)).trans rfl)) rfl ?_
  refine s_aload_n (i := 0) dX8_manyOf_38 rfl rfl ?_
  refine s_getI h0 flX8_54 rfl dX8_manyOf_39 ?_
  exact s_ireturn rfl dX8_manyOf_42 ⟨_, rfl, o_ret h⟩
theorem dX8_numberOf_0 : decode cX8_numberOf 0 = .ok (.iconst 0, 1) := by decide +kernel
theorem dX8_numberOf_1 : decode cX8_numberOf 1 = .ok (.istore 4, 2) := by decide +kernel
theorem dX8_numberOf_3 : decode cX8_numberOf 3 = .ok (.iload 4, 2) := by decide +kernel
theorem dX8_numberOf_5 : decode cX8_numberOf 5 = .ok (.aload_n 0, 1) := by decide +kernel
theorem dX8_numberOf_6 : decode cX8_numberOf 6 = .ok (.iload_n 1, 1) := by decide +kernel
theorem dX8_numberOf_7 : decode cX8_numberOf 7 = .ok (.invokevirtual 109, 3) := by decide +kernel
theorem dX8_numberOf_10 : decode cX8_numberOf 10 = .ok (.if_icmp .ge 29, 3) := by decide +kernel
theorem dX8_numberOf_13 : decode cX8_numberOf 13 = .ok (.aload_n 0, 1) := by decide +kernel
theorem dX8_numberOf_14 : decode cX8_numberOf 14 = .ok (.getfield 44, 3) := by decide +kernel
theorem dX8_numberOf_17 : decode cX8_numberOf 17 = .ok (.iload_n 1, 1) := by decide +kernel
theorem dX8_numberOf_18 : decode cX8_numberOf 18 = .ok (.bipush 6, 2) := by decide +kernel
theorem dX8_numberOf_20 : decode cX8_numberOf 20 = .ok (.imul, 1) := by decide +kernel
theorem dX8_numberOf_21 : decode cX8_numberOf 21 = .ok (.iload 4, 2) := by decide +kernel
theorem dX8_numberOf_23 : decode cX8_numberOf 23 = .ok (.iadd, 1) := by decide +kernel
theorem dX8_numberOf_24 : decode cX8_numberOf 24 = .ok (.laload, 1) := by decide +kernel
theorem dX8_numberOf_25 : decode cX8_numberOf 25 = .ok (.lload_n 2, 1) := by decide +kernel
theorem dX8_numberOf_26 : decode cX8_numberOf 26 = .ok (.lcmp, 1) := by decide +kernel
theorem dX8_numberOf_27 : decode cX8_numberOf 27 = .ok (.ifCond .ne 6, 3) := by decide +kernel
theorem dX8_numberOf_30 : decode cX8_numberOf 30 = .ok (.iload 4, 2) := by decide +kernel
theorem dX8_numberOf_32 : decode cX8_numberOf 32 = .ok (.ireturn, 1) := by decide +kernel
theorem dX8_numberOf_33 : decode cX8_numberOf 33 = .ok (.iinc 4 1, 3) := by decide +kernel
theorem dX8_numberOf_36 : decode cX8_numberOf 36 = .ok (.goto (-33), 3) := by decide +kernel
theorem dX8_numberOf_39 : decode cX8_numberOf 39 = .ok (.iconst (-1), 1) := by decide +kernel
theorem dX8_numberOf_40 : decode cX8_numberOf 40 = .ok (.ireturn, 1) := by decide +kernel
noncomputable def fX8_numberOf_s3 (rf : Nat → Nat → Nat) (a0 : Nat) (x1 : Int32) (x2 : Int64) (τ3 : Int32) (μ0 : o_Mem) : Option ((Nat × (Int32)) × o_Mem) :=
  o_bd (fX8_manyOf rf a0 x1 μ0) fun r1 μ1 =>
  if r1 ≤ τ3 then (
    some ((39, 0), μ1))
  else (
    o_ck (0 ≤ (((x1 * 6) + τ3)).toInt ∧ (((x1 * 6) + τ3)).toInt < 18) <|
    if (μ1.2 (rf a0 17) (((x1 * 6) + τ3)).toNatClampNeg) = x2 then (
      some ((30, τ3), μ1))
    else (
      some ((3, (τ3 + 1)), μ1)))
noncomputable def fX8_numberOf (rf : Nat → Nat → Nat) (a0 : Nat) (x1 : Int32) (x2 : Int64) (μ0 : o_Mem) : Option (Int32 × o_Mem) :=
  o_bd (o_lp 3 (fX8_numberOf_s3 rf a0 x1 x2) o_fuel (0 : Int32) μ0) fun ex1 μ1 =>
  if ex1.1 = 30 then (
    some (ex1.2, μ1))
  else
  if ex1.1 = 39 then (
    some ((-1), μ1))
  else
    none
set_option maxRecDepth 20000 in
theorem dnX8_numberOf_s3 {X : o_Cx} (hX : o_ok X) {d : Nat} {a0 : Nat} {x1 : Int32} {x2 : Int64} {τ3 : Int32} {μ0 : o_Mem} {K : (Nat × (Int32)) → o_Mem → Prop} {Q : Option Value → o_Mem → Prop} (h0 : o_is X a0 (.inl 8)) (h : o_Post (fX8_numberOf_s3 (o_rf X) a0 x1 x2 τ3 μ0) K) (kh : ∀ (τ3 : Int32) (μ : o_Mem), K (3, τ3) μ → o_Ev X (d + 1) mX8_numberOf 3 [some (.ref (o_ad X a0)), some (.int x1), some (.long x2), none, some (.int τ3)] [] μ Q) (k30 : ∀ (τ3 : Int32) (μ : o_Mem), K (30, τ3) μ → o_Ev X (d + 1) mX8_numberOf 30 [none, none, none, none, some (.int τ3)] [] μ Q) (k39 : ∀ (τ3 : Int32) (μ : o_Mem), K (39, τ3) μ → o_Ev X (d + 1) mX8_numberOf 39 [none, none, none, none, none] [] μ Q) : o_Ev X (d + 1) mX8_numberOf 3 [some (.ref (o_ad X a0)), some (.int x1), some (.long x2), none, some (.int τ3)] [] μ0 Q := by
  unfold fX8_numberOf_s3 at h
  refine s_iload dX8_numberOf_3 rfl ?_
  refine s_aload_n (i := 0) dX8_numberOf_5 rfl rfl ?_
  refine s_iload_n (i := 1) dX8_numberOf_6 rfl rfl ?_
  refine s_callVi (C := mX8_manyOf) (As := [.int x1]) (rest := [.int τ3]) (L0 := [some (.ref (o_ad X a0)), some (.int x1)]) hX h0 clX8_109 dX8_numberOf_7 rfl rfl (Nat.le_of_ble_eq_true rfl) (Nat.le_of_ble_eq_true rfl) (dnX8_manyOf hX h0 (o_bdp h)) (fun r1 μ1 h => ?_)
  refine s_icmp_ge (tgt := 39) dX8_numberOf_10 rfl (fun c1 => ?_) (fun c1 => ?_)
  · have h := o_if_t c1 h
    refine s_mask [false, false, false, false, false] (L' := [none, none, none, none, none]) rfl ?_
    exact k39 0 _ (o_ret h)
  · have h := o_if_f c1 h
    refine s_aload_n (i := 0) dX8_numberOf_13 rfl rfl ?_
    refine s_getR hX h0 flX8_44 rfl dX8_numberOf_14 (fun (g1 : o_is X (o_rf X a0 17) (.inr (2, 18))) => ?_)
    refine s_iload_n (i := 1) dX8_numberOf_17 rfl rfl ?_
    refine s_bipush dX8_numberOf_18 kB_6 ?_
    refine s_imul dX8_numberOf_20 ?_
    refine s_iload dX8_numberOf_21 rfl ?_
    refine s_iadd dX8_numberOf_23 ?_
    have hc := o_ck_c h
    have h := o_ck_k h
    refine s_laldK g1 hc rfl dX8_numberOf_24 ?_
    refine s_lload_n (i := 2) dX8_numberOf_25 rfl rfl ?_
    refine s_lif_ne (tgt := 33) dX8_numberOf_26 dX8_numberOf_27 rfl (fun c1 => ?_) (fun c1 => ?_)
    · have h := o_if_f c1 h
      refine s_iinc (v := (τ3 + 1)) dX8_numberOf_33 rfl rfl (Nat.le_of_ble_eq_true rfl) rfl ?_
      refine s_goto (tgt := 3) dX8_numberOf_36 rfl ?_
      refine s_mask [true, true, true, false, true] (L' := [some (.ref (o_ad X a0)), some (.int x1), some (.long x2), none, some (.int (τ3 + 1))]) rfl ?_
      exact kh (τ3 + 1) _ (o_ret h)
    · have h := o_if_t c1 h
      refine s_mask [false, false, false, false, true] (L' := [none, none, none, none, some (.int τ3)]) rfl ?_
      exact k30 τ3 _ (o_ret h)
set_option maxRecDepth 20000 in
theorem dnX8_numberOf {X : o_Cx} (hX : o_ok X) {d : Nat} {a0 : Nat} {x1 : Int32} {x2 : Int64} {μ0 : o_Mem} {q : Int32 → o_Mem → Prop} (h0 : o_is X a0 (.inl 8)) (h : o_Post (fX8_numberOf (o_rf X) a0 x1 x2 μ0) q) : o_Ev X (d + 1) mX8_numberOf 0 [some (.ref (o_ad X a0)), some (.int x1), some (.long x2), none, none] [] μ0 (o_QI q) := by
  unfold fX8_numberOf at h
  refine s_iconst dX8_numberOf_0 kI_0 ?_
  refine s_istore dX8_numberOf_1 (Nat.le_of_ble_eq_true rfl) rfl ?_
  refine s_mask [true, true, true, false, true] (L' := [some (.ref (o_ad X a0)), some (.int x1), some (.long x2), none, some (.int 0)]) rfl ?_
  refine o_lp_ev (fun τ3 => [some (.ref (o_ad X a0)), some (.int x1), some (.long x2), none, some (.int τ3)]) (fun τ3 μ _K h kv ke3 => dnX8_numberOf_s3 hX h0 h kv (fun τ3 μ1 h => ?_) (fun τ3 μ1 h => ?_)) o_fuel 0 μ0 (o_bdp h)
  · have h := o_if_t rfl (ke3 (30, τ3) μ1 (o_ne rfl) h)
    refine s_iload dX8_numberOf_30 rfl ?_
    exact s_ireturn rfl dX8_numberOf_32 ⟨_, rfl, o_ret h⟩
  · have h := o_if_t rfl (o_if_f (o_ne rfl) (ke3 (39, τ3) μ1 (o_ne rfl) h))
    refine s_iconst dX8_numberOf_39 kI_m1 ?_
    exact s_ireturn rfl dX8_numberOf_40 ⟨_, rfl, o_ret h⟩
theorem dX4_wantKnown_0 : decode cX4_wantKnown 0 = .ok (.aload_n 0, 1) := by decide +kernel
theorem dX4_wantKnown_1 : decode cX4_wantKnown 1 = .ok (.invokevirtual 87, 3) := by decide +kernel
theorem dX4_wantKnown_4 : decode cX4_wantKnown 4 = .ok (.ifCond .ne 11, 3) := by decide +kernel
theorem dX4_wantKnown_7 : decode cX4_wantKnown 7 = .ok (.aload_n 0, 1) := by decide +kernel
theorem dX4_wantKnown_8 : decode cX4_wantKnown 8 = .ok (.iconst 2, 1) := by decide +kernel
theorem dX4_wantKnown_9 : decode cX4_wantKnown 9 = .ok (.invokevirtual 84, 3) := by decide +kernel
theorem dX4_wantKnown_12 : decode cX4_wantKnown 12 = .ok (.pop, 1) := by decide +kernel
theorem dX4_wantKnown_13 : decode cX4_wantKnown 13 = .ok (.iconst (-1), 1) := by decide +kernel
theorem dX4_wantKnown_14 : decode cX4_wantKnown 14 = .ok (.ireturn, 1) := by decide +kernel
theorem dX4_wantKnown_15 : decode cX4_wantKnown 15 = .ok (.aload_n 1, 1) := by decide +kernel
theorem dX4_wantKnown_16 : decode cX4_wantKnown 16 = .ok (.iload_n 2, 1) := by decide +kernel
theorem dX4_wantKnown_17 : decode cX4_wantKnown 17 = .ok (.aload_n 0, 1) := by decide +kernel
theorem dX4_wantKnown_18 : decode cX4_wantKnown 18 = .ok (.getfield 62, 3) := by decide +kernel
theorem dX4_wantKnown_21 : decode cX4_wantKnown 21 = .ok (.invokevirtual 91, 3) := by decide +kernel
theorem dX4_wantKnown_24 : decode cX4_wantKnown 24 = .ok (.istore 4, 2) := by decide +kernel
theorem dX4_wantKnown_26 : decode cX4_wantKnown 26 = .ok (.iload 4, 2) := by decide +kernel
theorem dX4_wantKnown_28 : decode cX4_wantKnown 28 = .ok (.iconst (-1), 1) := by decide +kernel
theorem dX4_wantKnown_29 : decode cX4_wantKnown 29 = .ok (.if_icmp .ne 11, 3) := by decide +kernel
theorem dX4_wantKnown_32 : decode cX4_wantKnown 32 = .ok (.aload_n 0, 1) := by decide +kernel
theorem dX4_wantKnown_33 : decode cX4_wantKnown 33 = .ok (.iconst 3, 1) := by decide +kernel
theorem dX4_wantKnown_34 : decode cX4_wantKnown 34 = .ok (.invokevirtual 84, 3) := by decide +kernel
theorem dX4_wantKnown_37 : decode cX4_wantKnown 37 = .ok (.pop, 1) := by decide +kernel
theorem dX4_wantKnown_38 : decode cX4_wantKnown 38 = .ok (.iconst (-1), 1) := by decide +kernel
theorem dX4_wantKnown_39 : decode cX4_wantKnown 39 = .ok (.ireturn, 1) := by decide +kernel
theorem dX4_wantKnown_40 : decode cX4_wantKnown 40 = .ok (.iload 4, 2) := by decide +kernel
theorem dX4_wantKnown_42 : decode cX4_wantKnown 42 = .ok (.iload_n 3, 1) := by decide +kernel
theorem dX4_wantKnown_43 : decode cX4_wantKnown 43 = .ok (.if_icmp .ne 11, 3) := by decide +kernel
theorem dX4_wantKnown_46 : decode cX4_wantKnown 46 = .ok (.aload_n 0, 1) := by decide +kernel
theorem dX4_wantKnown_47 : decode cX4_wantKnown 47 = .ok (.iconst 5, 1) := by decide +kernel
theorem dX4_wantKnown_48 : decode cX4_wantKnown 48 = .ok (.invokevirtual 84, 3) := by decide +kernel
theorem dX4_wantKnown_51 : decode cX4_wantKnown 51 = .ok (.pop, 1) := by decide +kernel
theorem dX4_wantKnown_52 : decode cX4_wantKnown 52 = .ok (.iconst (-1), 1) := by decide +kernel
theorem dX4_wantKnown_53 : decode cX4_wantKnown 53 = .ok (.ireturn, 1) := by decide +kernel
theorem dX4_wantKnown_54 : decode cX4_wantKnown 54 = .ok (.aload_n 0, 1) := by decide +kernel
theorem dX4_wantKnown_55 : decode cX4_wantKnown 55 = .ok (.invokevirtual 37, 3) := by decide +kernel
theorem dX4_wantKnown_58 : decode cX4_wantKnown 58 = .ok (.iload 4, 2) := by decide +kernel
theorem dX4_wantKnown_60 : decode cX4_wantKnown 60 = .ok (.ireturn, 1) := by decide +kernel
noncomputable def fX4_wantKnown (rf : Nat → Nat → Nat) (a0 : Nat) (a1 : Nat) (x2 : Int32) (x3 : Int32) (μ0 : o_Mem) : Option (Int32 × o_Mem) :=
  o_bd (fX4_isName rf a0 μ0) fun r1 μ1 =>
  if r1 = 0 then (
    o_bd (fX4_fail rf a0 2 μ1) fun r5 μ6 =>
    some ((-1), μ6))
  else (
    o_bd (fX8_numberOf rf a1 x2 (μ1.2 a0 9) μ1) fun r2 μ2 =>
    if r2 = (-1) then (
      o_bd (fX4_fail rf a0 3 μ2) fun r4 μ5 =>
      some ((-1), μ5))
    else (
      if r2 = x3 then (
        o_bd (fX4_fail rf a0 5 μ2) fun r3 μ4 =>
        some ((-1), μ4))
      else (
        o_bd (fX4_next rf a0 μ2) fun _u μ3 =>
        some (r2, μ3))))
set_option maxRecDepth 20000 in
theorem dnX4_wantKnown {X : o_Cx} (hX : o_ok X) {d : Nat} {a0 : Nat} {a1 : Nat} {x2 : Int32} {x3 : Int32} {μ0 : o_Mem} {q : Int32 → o_Mem → Prop} (h0 : o_is X a0 (.inl 4)) (h1 : o_is X a1 (.inl 8)) (h : o_Post (fX4_wantKnown (o_rf X) a0 a1 x2 x3 μ0) q) : o_Ev X (d + 6) mX4_wantKnown 0 [some (.ref (o_ad X a0)), some (.ref (o_ad X a1)), some (.int x2), some (.int x3), none] [] μ0 (o_QI q) := by
  unfold fX4_wantKnown at h
  refine s_aload_n (i := 0) dX4_wantKnown_0 rfl rfl ?_
  refine s_callVz (C := mX4_isName) (As := []) (rest := []) (L0 := [some (.ref (o_ad X a0))]) hX h0 clX4_87 dX4_wantKnown_1 rfl rfl (Nat.le_of_ble_eq_true rfl) (Nat.le_of_ble_eq_true rfl) (dnX4_isName hX h0 (o_bdp h)) (fun r1 μ1 zr1 h => ?_)
  refine s_if_ne (tgt := 15) dX4_wantKnown_4 rfl (fun c1 => ?_) (fun c1 => ?_)
  · have h := o_if_f c1 h
    refine s_aload_n (i := 1) dX4_wantKnown_15 rfl rfl ?_
    refine s_iload_n (i := 2) dX4_wantKnown_16 rfl rfl ?_
    refine s_aload_n (i := 0) dX4_wantKnown_17 rfl rfl ?_
    refine s_getL h0 flX4_62 rfl dX4_wantKnown_18 ?_
    refine s_callVi (C := mX8_numberOf) (As := [.int x2, .long (μ1.2 a0 9)]) (rest := []) (L0 := [some (.ref (o_ad X a1)), some (.int x2), some (.long (μ1.2 a0 9)), none, none]) hX h1 clX4_91 dX4_wantKnown_21 rfl rfl (Nat.le_of_ble_eq_true rfl) (Nat.le_of_ble_eq_true rfl) (dnX8_numberOf hX h1 (o_bdp h)) (fun r2 μ2 h => ?_)
    refine s_istore dX4_wantKnown_24 (Nat.le_of_ble_eq_true rfl) rfl ?_
    refine s_iload dX4_wantKnown_26 rfl ?_
    refine s_iconst dX4_wantKnown_28 kI_m1 ?_
    refine s_icmp_ne (tgt := 40) dX4_wantKnown_29 rfl (fun c1 => ?_) (fun c1 => ?_)
    · have h := o_if_f c1 h
      refine s_iload dX4_wantKnown_40 rfl ?_
      refine s_iload_n (i := 3) dX4_wantKnown_42 rfl rfl ?_
      refine s_icmp_ne (tgt := 54) dX4_wantKnown_43 rfl (fun c1 => ?_) (fun c1 => ?_)
      · have h := o_if_f c1 h
        refine s_aload_n (i := 0) dX4_wantKnown_54 rfl rfl ?_
        refine s_callVu (C := mX4_next) (As := []) (rest := []) (L0 := [some (.ref (o_ad X a0))]) hX h0 clX4_37 dX4_wantKnown_55 rfl rfl (Nat.le_of_ble_eq_true rfl) (Nat.le_of_ble_eq_true rfl) (dnX4_next hX h0 (o_bdp h)) (fun _u μ3 h => ?_)
        refine s_iload dX4_wantKnown_58 rfl ?_
        exact s_ireturn rfl dX4_wantKnown_60 ⟨_, rfl, o_ret h⟩
      · have h := o_if_t c1 h
        refine s_aload_n (i := 0) dX4_wantKnown_46 rfl rfl ?_
        refine s_iconst dX4_wantKnown_47 kI_5 ?_
        refine s_callVz (C := mX4_fail) (As := [.int 5]) (rest := []) (L0 := [some (.ref (o_ad X a0)), some (.int 5)]) hX h0 clX4_84 dX4_wantKnown_48 rfl rfl (Nat.le_of_ble_eq_true rfl) (Nat.le_of_ble_eq_true rfl) (dnX4_fail hX h0 (o_bdp h)) (fun r3 μ4 zr3 h => ?_)
        refine s_pop dX4_wantKnown_51 rfl ?_
        refine s_iconst dX4_wantKnown_52 kI_m1 ?_
        exact s_ireturn rfl dX4_wantKnown_53 ⟨_, rfl, o_ret h⟩
    · have h := o_if_t c1 h
      refine s_aload_n (i := 0) dX4_wantKnown_32 rfl rfl ?_
      refine s_iconst dX4_wantKnown_33 kI_3 ?_
      refine s_callVz (C := mX4_fail) (As := [.int 3]) (rest := []) (L0 := [some (.ref (o_ad X a0)), some (.int 3)]) hX h0 clX4_84 dX4_wantKnown_34 rfl rfl (Nat.le_of_ble_eq_true rfl) (Nat.le_of_ble_eq_true rfl) (dnX4_fail hX h0 (o_bdp h)) (fun r4 μ5 zr4 h => ?_)
      refine s_pop dX4_wantKnown_37 rfl ?_
      refine s_iconst dX4_wantKnown_38 kI_m1 ?_
      exact s_ireturn rfl dX4_wantKnown_39 ⟨_, rfl, o_ret h⟩
  · have h := o_if_t c1 h
    refine s_aload_n (i := 0) dX4_wantKnown_7 rfl rfl ?_
    refine s_iconst dX4_wantKnown_8 kI_2 ?_
    refine s_callVz (C := mX4_fail) (As := [.int 2]) (rest := []) (L0 := [some (.ref (o_ad X a0)), some (.int 2)]) hX h0 clX4_84 dX4_wantKnown_9 rfl rfl (Nat.le_of_ble_eq_true rfl) (Nat.le_of_ble_eq_true rfl) (dnX4_fail hX h0 (o_bdp h)) (fun r5 μ6 zr5 h => ?_)
    refine s_pop dX4_wantKnown_12 rfl ?_
    refine s_iconst dX4_wantKnown_13 kI_m1 ?_
    exact s_ireturn rfl dX4_wantKnown_14 ⟨_, rfl, o_ret h⟩
theorem dX5_waysAlong_0 : decode cX5_waysAlong 0 = .ok (.aload_n 0, 1) := by decide +kernel
theorem dX5_waysAlong_1 : decode cX5_waysAlong 1 = .ok (.getfield 18, 3) := by decide +kernel
theorem dX5_waysAlong_4 : decode cX5_waysAlong 4 = .ok (.lconst 0, 1) := by decide +kernel
theorem dX5_waysAlong_5 : decode cX5_waysAlong 5 = .ok (.invokestatic 22, 3) := by decide +kernel
theorem dX5_waysAlong_8 : decode cX5_waysAlong 8 = .ok (.aload_n 0, 1) := by decide +kernel
theorem dX5_waysAlong_9 : decode cX5_waysAlong 9 = .ok (.getfield 18, 3) := by decide +kernel
theorem dX5_waysAlong_12 : decode cX5_waysAlong 12 = .ok (.iconst 0, 1) := by decide +kernel
theorem dX5_waysAlong_13 : decode cX5_waysAlong 13 = .ok (.lconst 1, 1) := by decide +kernel
theorem dX5_waysAlong_14 : decode cX5_waysAlong 14 = .ok (.lastore, 1) := by decide +kernel
theorem dX5_waysAlong_15 : decode cX5_waysAlong 15 = .ok (.iconst 0, 1) := by decide +kernel
theorem dX5_waysAlong_16 : decode cX5_waysAlong 16 = .ok (.istore 4, 2) := by decide +kernel
theorem dX5_waysAlong_18 : decode cX5_waysAlong 18 = .ok (.iload 4, 2) := by decide +kernel
theorem dX5_waysAlong_20 : decode cX5_waysAlong 20 = .ok (.aload_n 1, 1) := by decide +kernel
theorem dX5_waysAlong_21 : decode cX5_waysAlong 21 = .ok (.getfield 28, 3) := by decide +kernel
theorem dX5_waysAlong_24 : decode cX5_waysAlong 24 = .ok (.if_icmp .ge 64, 3) := by decide +kernel
theorem dX5_waysAlong_27 : decode cX5_waysAlong 27 = .ok (.iload_n 3, 1) := by decide +kernel
theorem dX5_waysAlong_28 : decode cX5_waysAlong 28 = .ok (.istore 5, 2) := by decide +kernel
theorem dX5_waysAlong_30 : decode cX5_waysAlong 30 = .ok (.iload 5, 2) := by decide +kernel
theorem dX5_waysAlong_32 : decode cX5_waysAlong 32 = .ok (.iconst 1, 1) := by decide +kernel
theorem dX5_waysAlong_33 : decode cX5_waysAlong 33 = .ok (.if_icmp .lt 49, 3) := by decide +kernel
theorem dX5_waysAlong_36 : decode cX5_waysAlong 36 = .ok (.aload_n 2, 1) := by decide +kernel
theorem dX5_waysAlong_37 : decode cX5_waysAlong 37 = .ok (.getfield 32, 3) := by decide +kernel
theorem dX5_waysAlong_40 : decode cX5_waysAlong 40 = .ok (.iload 5, 2) := by decide +kernel
theorem dX5_waysAlong_42 : decode cX5_waysAlong 42 = .ok (.iconst 1, 1) := by decide +kernel
theorem dX5_waysAlong_43 : decode cX5_waysAlong 43 = .ok (.isub, 1) := by decide +kernel
theorem dX5_waysAlong_44 : decode cX5_waysAlong 44 = .ok (.laload, 1) := by decide +kernel
theorem dX5_waysAlong_45 : decode cX5_waysAlong 45 = .ok (.aload_n 1, 1) := by decide +kernel
theorem dX5_waysAlong_46 : decode cX5_waysAlong 46 = .ok (.getfield 37, 3) := by decide +kernel
theorem dX5_waysAlong_49 : decode cX5_waysAlong 49 = .ok (.iload 4, 2) := by decide +kernel
theorem dX5_waysAlong_51 : decode cX5_waysAlong 51 = .ok (.iaload, 1) := by decide +kernel
theorem dX5_waysAlong_52 : decode cX5_waysAlong 52 = .ok (.i2l, 1) := by decide +kernel
theorem dX5_waysAlong_53 : decode cX5_waysAlong 53 = .ok (.lcmp, 1) := by decide +kernel
theorem dX5_waysAlong_54 : decode cX5_waysAlong 54 = .ok (.ifCond .ne 22, 3) := by decide +kernel
theorem dX5_waysAlong_57 : decode cX5_waysAlong 57 = .ok (.aload_n 0, 1) := by decide +kernel
theorem dX5_waysAlong_58 : decode cX5_waysAlong 58 = .ok (.getfield 18, 3) := by decide +kernel
theorem dX5_waysAlong_61 : decode cX5_waysAlong 61 = .ok (.iload 5, 2) := by decide +kernel
theorem dX5_waysAlong_63 : decode cX5_waysAlong 63 = .ok (.dup2, 1) := by decide +kernel
theorem dX5_waysAlong_64 : decode cX5_waysAlong 64 = .ok (.laload, 1) := by decide +kernel
theorem dX5_waysAlong_65 : decode cX5_waysAlong 65 = .ok (.aload_n 0, 1) := by decide +kernel
theorem dX5_waysAlong_66 : decode cX5_waysAlong 66 = .ok (.getfield 18, 3) := by decide +kernel
theorem dX5_waysAlong_69 : decode cX5_waysAlong 69 = .ok (.iload 5, 2) := by decide +kernel
theorem dX5_waysAlong_71 : decode cX5_waysAlong 71 = .ok (.iconst 1, 1) := by decide +kernel
theorem dX5_waysAlong_72 : decode cX5_waysAlong 72 = .ok (.isub, 1) := by decide +kernel
theorem dX5_waysAlong_73 : decode cX5_waysAlong 73 = .ok (.laload, 1) := by decide +kernel
theorem dX5_waysAlong_74 : decode cX5_waysAlong 74 = .ok (.ladd, 1) := by decide +kernel
theorem dX5_waysAlong_75 : decode cX5_waysAlong 75 = .ok (.lastore, 1) := by decide +kernel
theorem dX5_waysAlong_76 : decode cX5_waysAlong 76 = .ok (.iinc 5 (-1), 3) := by decide +kernel
theorem dX5_waysAlong_79 : decode cX5_waysAlong 79 = .ok (.goto (-49), 3) := by decide +kernel
theorem dX5_waysAlong_82 : decode cX5_waysAlong 82 = .ok (.iinc 4 1, 3) := by decide +kernel
theorem dX5_waysAlong_85 : decode cX5_waysAlong 85 = .ok (.goto (-67), 3) := by decide +kernel
theorem dX5_waysAlong_88 : decode cX5_waysAlong 88 = .ok (.aload_n 0, 1) := by decide +kernel
theorem dX5_waysAlong_89 : decode cX5_waysAlong 89 = .ok (.getfield 18, 3) := by decide +kernel
theorem dX5_waysAlong_92 : decode cX5_waysAlong 92 = .ok (.iload_n 3, 1) := by decide +kernel
theorem dX5_waysAlong_93 : decode cX5_waysAlong 93 = .ok (.laload, 1) := by decide +kernel
theorem dX5_waysAlong_94 : decode cX5_waysAlong 94 = .ok (.lreturn, 1) := by decide +kernel
noncomputable def fX5_waysAlong_s30 (rf : Nat → Nat → Nat) (a0 : Nat) (a1 : Nat) (a2 : Nat) (x3 : Int32) (x4 : Int32) (τ30 : Int32) (μ0 : o_Mem) : Option ((Nat × (Int32)) × o_Mem) :=
  if τ30 < 1 then (
    some ((82, 0), μ0))
  else (
    o_ck (0 ≤ ((τ30 - 1)).toInt ∧ ((τ30 - 1)).toInt < 60) <|
    o_ck (0 ≤ (x4).toInt ∧ (x4).toInt < 12) <|
    if (μ0.2 (rf a2 3) ((τ30 - 1)).toNatClampNeg) = (μ0.1 (rf a1 5) x4.toNatClampNeg).toInt64 then (
      o_ck (0 ≤ (τ30).toInt ∧ (τ30).toInt < 13) <|
      o_ck (0 ≤ ((τ30 - 1)).toInt ∧ ((τ30 - 1)).toInt < 13) <|
      o_ck (0 ≤ (τ30).toInt ∧ (τ30).toInt < 13) <|
      o_seq (o_wL μ0 (rf a0 1) τ30.toNatClampNeg ((μ0.2 (rf a0 1) τ30.toNatClampNeg) + (μ0.2 (rf a0 1) ((τ30 - 1)).toNatClampNeg))) fun μ1 =>
      some ((30, (τ30 + (-1))), μ1))
    else (
      some ((30, (τ30 + (-1))), μ0)))
noncomputable def fX5_waysAlong_s18 (rf : Nat → Nat → Nat) (a0 : Nat) (a1 : Nat) (a2 : Nat) (x3 : Int32) (τ18 : Int32) (μ0 : o_Mem) : Option ((Nat × (Int32)) × o_Mem) :=
  if (μ0.1 a1 0) ≤ τ18 then (
    some ((88, 0), μ0))
  else (
    o_bd (o_lp 30 (fX5_waysAlong_s30 rf a0 a1 a2 x3 τ18) o_fuel (x3 : Int32) μ0) fun ex1 μ1 =>
    if ex1.1 = 82 then (
      some ((18, (τ18 + 1)), μ1))
    else
      none)
noncomputable def fX5_waysAlong (rf : Nat → Nat → Nat) (a0 : Nat) (a1 : Nat) (a2 : Nat) (x3 : Int32) (μ0 : o_Mem) : Option (Int64 × o_Mem) :=
  o_seq (o_sL μ0 (rf a0 1) (o_fill (μ0.2 (rf a0 1)) 13 (0 : Int64))) fun μ1 =>
  o_seq (o_wL μ1 (rf a0 1) 0 (1 : Int64)) fun μ2 =>
  o_bd (o_lp 18 (fX5_waysAlong_s18 rf a0 a1 a2 x3) o_fuel (0 : Int32) μ2) fun ex3 μ3 =>
  if ex3.1 = 88 then (
    o_ck (0 ≤ (x3).toInt ∧ (x3).toInt < 13) <|
    some ((μ3.2 (rf a0 1) x3.toNatClampNeg), μ3))
  else
    none
set_option maxRecDepth 20000 in
theorem dnX5_waysAlong_s30 {X : o_Cx} (hX : o_ok X) {d : Nat} {a0 : Nat} {a1 : Nat} {a2 : Nat} {x3 : Int32} {x4 : Int32} {τ30 : Int32} {μ0 : o_Mem} {K : (Nat × (Int32)) → o_Mem → Prop} {Q : Option Value → o_Mem → Prop} (h0 : o_is X a0 (.inl 5)) (h1 : o_is X a1 (.inl 1)) (h2 : o_is X a2 (.inl 7)) (h : o_Post (fX5_waysAlong_s30 (o_rf X) a0 a1 a2 x3 x4 τ30 μ0) K) (kh : ∀ (τ30 : Int32) (μ : o_Mem), K (30, τ30) μ → o_Ev X (d + 1) mX5_waysAlong 30 [some (.ref (o_ad X a0)), some (.ref (o_ad X a1)), some (.ref (o_ad X a2)), some (.int x3), some (.int x4), some (.int τ30)] [] μ Q) (k82 : ∀ (τ30 : Int32) (μ : o_Mem), K (82, τ30) μ → o_Ev X (d + 1) mX5_waysAlong 82 [some (.ref (o_ad X a0)), some (.ref (o_ad X a1)), some (.ref (o_ad X a2)), some (.int x3), some (.int x4), none] [] μ Q) : o_Ev X (d + 1) mX5_waysAlong 30 [some (.ref (o_ad X a0)), some (.ref (o_ad X a1)), some (.ref (o_ad X a2)), some (.int x3), some (.int x4), some (.int τ30)] [] μ0 Q := by
  unfold fX5_waysAlong_s30 at h
  refine s_iload dX5_waysAlong_30 rfl ?_
  refine s_iconst dX5_waysAlong_32 kI_1 ?_
  refine s_icmp_lt (tgt := 82) dX5_waysAlong_33 rfl (fun c1 => ?_) (fun c1 => ?_)
  · have h := o_if_t c1 h
    refine s_mask [true, true, true, true, true, false] (L' := [some (.ref (o_ad X a0)), some (.ref (o_ad X a1)), some (.ref (o_ad X a2)), some (.int x3), some (.int x4), none]) rfl ?_
    exact k82 0 _ (o_ret h)
  · have h := o_if_f c1 h
    refine s_aload_n (i := 2) dX5_waysAlong_36 rfl rfl ?_
    refine s_getR hX h2 flX5_32 rfl dX5_waysAlong_37 (fun (g1 : o_is X (o_rf X a2 3) (.inr (2, 60))) => ?_)
    refine s_iload dX5_waysAlong_40 rfl ?_
    refine s_iconst dX5_waysAlong_42 kI_1 ?_
    refine s_isub dX5_waysAlong_43 ?_
    have hc := o_ck_c h
    have h := o_ck_k h
    refine s_laldK g1 hc rfl dX5_waysAlong_44 ?_
    refine s_aload_n (i := 1) dX5_waysAlong_45 rfl rfl ?_
    refine s_getR hX h1 flX5_37 rfl dX5_waysAlong_46 (fun (g2 : o_is X (o_rf X a1 5) (.inr (0, 12))) => ?_)
    refine s_iload dX5_waysAlong_49 rfl ?_
    have hc := o_ck_c h
    have h := o_ck_k h
    refine s_ialdK g2 hc rfl dX5_waysAlong_51 ?_
    refine s_i2l dX5_waysAlong_52 ?_
    refine s_lif_ne (tgt := 76) dX5_waysAlong_53 dX5_waysAlong_54 rfl (fun c1 => ?_) (fun c1 => ?_)
    · have h := o_if_f c1 h
      refine s_iinc (v := (τ30 + (-1))) dX5_waysAlong_76 rfl rfl (Nat.le_of_ble_eq_true rfl) rfl ?_
      refine s_goto (tgt := 30) dX5_waysAlong_79 rfl ?_
      refine s_mask [true, true, true, true, true, true] (L' := [some (.ref (o_ad X a0)), some (.ref (o_ad X a1)), some (.ref (o_ad X a2)), some (.int x3), some (.int x4), some (.int (τ30 + (-1)))]) rfl ?_
      exact kh (τ30 + (-1)) _ (o_ret h)
    · have h := o_if_t c1 h
      refine s_aload_n (i := 0) dX5_waysAlong_57 rfl rfl ?_
      refine s_getR hX h0 flX5_18 rfl dX5_waysAlong_58 (fun (g3 : o_is X (o_rf X a0 1) (.inr (2, 13))) => ?_)
      refine s_iload dX5_waysAlong_61 rfl ?_
      refine s_dup2 dX5_waysAlong_63 rfl rfl ?_
      have hc := o_ck_c h
      have h := o_ck_k h
      refine s_laldK g3 hc rfl dX5_waysAlong_64 ?_
      refine s_aload_n (i := 0) dX5_waysAlong_65 rfl rfl ?_
      refine s_getR hX h0 flX5_18 rfl dX5_waysAlong_66 (fun (g4 : o_is X (o_rf X a0 1) (.inr (2, 13))) => ?_)
      refine s_iload dX5_waysAlong_69 rfl ?_
      refine s_iconst dX5_waysAlong_71 kI_1 ?_
      refine s_isub dX5_waysAlong_72 ?_
      have hc := o_ck_c h
      have h := o_ck_k h
      refine s_laldK g4 hc rfl dX5_waysAlong_73 ?_
      refine s_ladd dX5_waysAlong_74 ?_
      have hc := o_ck_c h
      have h := o_ck_k h
      refine s_lastK hX g3 hc rfl dX5_waysAlong_75 (o_gen h (fun μ1 h => ?_))
      refine s_iinc (v := (τ30 + (-1))) dX5_waysAlong_76 rfl rfl (Nat.le_of_ble_eq_true rfl) rfl ?_
      refine s_goto (tgt := 30) dX5_waysAlong_79 rfl ?_
      refine s_mask [true, true, true, true, true, true] (L' := [some (.ref (o_ad X a0)), some (.ref (o_ad X a1)), some (.ref (o_ad X a2)), some (.int x3), some (.int x4), some (.int (τ30 + (-1)))]) rfl ?_
      exact kh (τ30 + (-1)) _ (o_ret h)
set_option maxRecDepth 20000 in
theorem dnX5_waysAlong_s18 {X : o_Cx} (hX : o_ok X) {d : Nat} {a0 : Nat} {a1 : Nat} {a2 : Nat} {x3 : Int32} {τ18 : Int32} {μ0 : o_Mem} {K : (Nat × (Int32)) → o_Mem → Prop} {Q : Option Value → o_Mem → Prop} (h0 : o_is X a0 (.inl 5)) (h1 : o_is X a1 (.inl 1)) (h2 : o_is X a2 (.inl 7)) (h : o_Post (fX5_waysAlong_s18 (o_rf X) a0 a1 a2 x3 τ18 μ0) K) (kh : ∀ (τ18 : Int32) (μ : o_Mem), K (18, τ18) μ → o_Ev X (d + 1) mX5_waysAlong 18 [some (.ref (o_ad X a0)), some (.ref (o_ad X a1)), some (.ref (o_ad X a2)), some (.int x3), some (.int τ18), none] [] μ Q) (k88 : ∀ (τ18 : Int32) (μ : o_Mem), K (88, τ18) μ → o_Ev X (d + 1) mX5_waysAlong 88 [some (.ref (o_ad X a0)), none, none, some (.int x3), none, none] [] μ Q) : o_Ev X (d + 1) mX5_waysAlong 18 [some (.ref (o_ad X a0)), some (.ref (o_ad X a1)), some (.ref (o_ad X a2)), some (.int x3), some (.int τ18), none] [] μ0 Q := by
  unfold fX5_waysAlong_s18 at h
  refine s_iload dX5_waysAlong_18 rfl ?_
  refine s_aload_n (i := 1) dX5_waysAlong_20 rfl rfl ?_
  refine s_getI h1 flX5_28 rfl dX5_waysAlong_21 ?_
  refine s_icmp_ge (tgt := 88) dX5_waysAlong_24 rfl (fun c1 => ?_) (fun c1 => ?_)
  · have h := o_if_t c1 h
    refine s_mask [true, false, false, true, false, false] (L' := [some (.ref (o_ad X a0)), none, none, some (.int x3), none, none]) rfl ?_
    exact k88 0 _ (o_ret h)
  · have h := o_if_f c1 h
    refine s_iload_n (i := 3) dX5_waysAlong_27 rfl rfl ?_
    refine s_istore dX5_waysAlong_28 (Nat.le_of_ble_eq_true rfl) rfl ?_
    refine s_mask [true, true, true, true, true, true] (L' := [some (.ref (o_ad X a0)), some (.ref (o_ad X a1)), some (.ref (o_ad X a2)), some (.int x3), some (.int τ18), some (.int x3)]) rfl ?_
    refine o_lp_ev (fun τ30 => [some (.ref (o_ad X a0)), some (.ref (o_ad X a1)), some (.ref (o_ad X a2)), some (.int x3), some (.int τ18), some (.int τ30)]) (fun τ30 μ _K h kv ke30 => dnX5_waysAlong_s30 hX h0 h1 h2 h kv (fun τ30 μ1 h => ?_)) o_fuel x3 μ0 (o_bdp h)
    · have h := o_if_t rfl (ke30 (82, τ30) μ1 (o_ne rfl) h)
      refine s_iinc (v := (τ18 + 1)) dX5_waysAlong_82 rfl rfl (Nat.le_of_ble_eq_true rfl) rfl ?_
      refine s_goto (tgt := 18) dX5_waysAlong_85 rfl ?_
      refine s_mask [true, true, true, true, true, false] (L' := [some (.ref (o_ad X a0)), some (.ref (o_ad X a1)), some (.ref (o_ad X a2)), some (.int x3), some (.int (τ18 + 1)), none]) rfl ?_
      exact kh (τ18 + 1) _ (o_ret h)
set_option maxRecDepth 20000 in
theorem dnX5_waysAlong {X : o_Cx} (hX : o_ok X) {d : Nat} {a0 : Nat} {a1 : Nat} {a2 : Nat} {x3 : Int32} {μ0 : o_Mem} {q : Int64 → o_Mem → Prop} (h0 : o_is X a0 (.inl 5)) (h1 : o_is X a1 (.inl 1)) (h2 : o_is X a2 (.inl 7)) (h : o_Post (fX5_waysAlong (o_rf X) a0 a1 a2 x3 μ0) q) : o_Ev X (d + 1) mX5_waysAlong 0 [some (.ref (o_ad X a0)), some (.ref (o_ad X a1)), some (.ref (o_ad X a2)), some (.int x3), none, none] [] μ0 (o_QL q) := by
  unfold fX5_waysAlong at h
  refine s_aload_n (i := 0) dX5_waysAlong_0 rfl rfl ?_
  refine s_getR hX h0 flX5_18 rfl dX5_waysAlong_1 (fun (g1 : o_is X (o_rf X a0 1) (.inr (2, 13))) => ?_)
  refine s_lconst (v := 0) dX5_waysAlong_4 rfl ?_
  refine s_fillL (rest := []) hX g1 mlX5_22 (by decide) (Nat.le_of_ble_eq_true rfl) dX5_waysAlong_5 (o_gen h (fun μ1 h => ?_))
  refine s_aload_n (i := 0) dX5_waysAlong_8 rfl rfl ?_
  refine s_getR hX h0 flX5_18 rfl dX5_waysAlong_9 (fun (g2 : o_is X (o_rf X a0 1) (.inr (2, 13))) => ?_)
  refine s_iconst dX5_waysAlong_12 kI_0 ?_
  refine s_lconst (v := 1) dX5_waysAlong_13 rfl ?_
  refine s_lastK hX g2 ⟨by decide, by decide⟩ kN_0 dX5_waysAlong_14 (o_gen h (fun μ2 h => ?_))
  refine s_iconst dX5_waysAlong_15 kI_0 ?_
  refine s_istore dX5_waysAlong_16 (Nat.le_of_ble_eq_true rfl) rfl ?_
  refine s_mask [true, true, true, true, true, false] (L' := [some (.ref (o_ad X a0)), some (.ref (o_ad X a1)), some (.ref (o_ad X a2)), some (.int x3), some (.int 0), none]) rfl ?_
  refine o_lp_ev (fun τ18 => [some (.ref (o_ad X a0)), some (.ref (o_ad X a1)), some (.ref (o_ad X a2)), some (.int x3), some (.int τ18), none]) (fun τ18 μ _K h kv ke18 => dnX5_waysAlong_s18 hX h0 h1 h2 h kv (fun τ18 μ3 h => ?_)) o_fuel 0 μ2 (o_bdp h)
  · have h := o_if_t rfl (ke18 (88, τ18) μ3 (o_ne rfl) h)
    refine s_aload_n (i := 0) dX5_waysAlong_88 rfl rfl ?_
    refine s_getR hX h0 flX5_18 rfl dX5_waysAlong_89 (fun (g3 : o_is X (o_rf X a0 1) (.inr (2, 13))) => ?_)
    refine s_iload_n (i := 3) dX5_waysAlong_92 rfl rfl ?_
    have hc := o_ck_c h
    have h := o_ck_k h
    refine s_laldK g3 hc rfl dX5_waysAlong_93 ?_
    exact s_lreturn rfl dX5_waysAlong_94 ⟨_, rfl, o_ret h⟩
theorem dX5_isWhole_0 : decode cX5_isWhole 0 = .ok (.aload_n 1, 1) := by decide +kernel
theorem dX5_isWhole_1 : decode cX5_isWhole 1 = .ok (.getfield 28, 3) := by decide +kernel
theorem dX5_isWhole_4 : decode cX5_isWhole 4 = .ok (.iload_n 3, 1) := by decide +kernel
theorem dX5_isWhole_5 : decode cX5_isWhole 5 = .ok (.if_icmp .eq 5, 3) := by decide +kernel
theorem dX5_isWhole_8 : decode cX5_isWhole 8 = .ok (.iconst 0, 1) := by decide +kernel
theorem dX5_isWhole_9 : decode cX5_isWhole 9 = .ok (.ireturn, 1) := by decide +kernel
theorem dX5_isWhole_10 : decode cX5_isWhole 10 = .ok (.iconst 0, 1) := by decide +kernel
theorem dX5_isWhole_11 : decode cX5_isWhole 11 = .ok (.istore 4, 2) := by decide +kernel
theorem dX5_isWhole_13 : decode cX5_isWhole 13 = .ok (.iload 4, 2) := by decide +kernel
theorem dX5_isWhole_15 : decode cX5_isWhole 15 = .ok (.iload_n 3, 1) := by decide +kernel
theorem dX5_isWhole_16 : decode cX5_isWhole 16 = .ok (.if_icmp .ge 30, 3) := by decide +kernel
theorem dX5_isWhole_19 : decode cX5_isWhole 19 = .ok (.aload_n 2, 1) := by decide +kernel
theorem dX5_isWhole_20 : decode cX5_isWhole 20 = .ok (.getfield 32, 3) := by decide +kernel
theorem dX5_isWhole_23 : decode cX5_isWhole 23 = .ok (.iload 4, 2) := by decide +kernel
theorem dX5_isWhole_25 : decode cX5_isWhole 25 = .ok (.laload, 1) := by decide +kernel
theorem dX5_isWhole_26 : decode cX5_isWhole 26 = .ok (.aload_n 1, 1) := by decide +kernel
theorem dX5_isWhole_27 : decode cX5_isWhole 27 = .ok (.getfield 37, 3) := by decide +kernel
theorem dX5_isWhole_30 : decode cX5_isWhole 30 = .ok (.iload 4, 2) := by decide +kernel
theorem dX5_isWhole_32 : decode cX5_isWhole 32 = .ok (.iaload, 1) := by decide +kernel
theorem dX5_isWhole_33 : decode cX5_isWhole 33 = .ok (.i2l, 1) := by decide +kernel
theorem dX5_isWhole_34 : decode cX5_isWhole 34 = .ok (.lcmp, 1) := by decide +kernel
theorem dX5_isWhole_35 : decode cX5_isWhole 35 = .ok (.ifCond .eq 5, 3) := by decide +kernel
theorem dX5_isWhole_38 : decode cX5_isWhole 38 = .ok (.iconst 0, 1) := by decide +kernel
theorem dX5_isWhole_39 : decode cX5_isWhole 39 = .ok (.ireturn, 1) := by decide +kernel
theorem dX5_isWhole_40 : decode cX5_isWhole 40 = .ok (.iinc 4 1, 3) := by decide +kernel
theorem dX5_isWhole_43 : decode cX5_isWhole 43 = .ok (.goto (-30), 3) := by decide +kernel
theorem dX5_isWhole_46 : decode cX5_isWhole 46 = .ok (.iconst 1, 1) := by decide +kernel
theorem dX5_isWhole_47 : decode cX5_isWhole 47 = .ok (.ireturn, 1) := by decide +kernel
noncomputable def fX5_isWhole_s13 (rf : Nat → Nat → Nat) (a1 : Nat) (a2 : Nat) (x3 : Int32) (τ13 : Int32) (μ0 : o_Mem) : Option ((Nat × (Int32)) × o_Mem) :=
  if x3 ≤ τ13 then (
    some ((46, 0), μ0))
  else (
    o_ck (0 ≤ (τ13).toInt ∧ (τ13).toInt < 60) <|
    o_ck (0 ≤ (τ13).toInt ∧ (τ13).toInt < 12) <|
    if (μ0.2 (rf a2 3) τ13.toNatClampNeg) = (μ0.1 (rf a1 5) τ13.toNatClampNeg).toInt64 then (
      some ((13, (τ13 + 1)), μ0))
    else (
      some ((38, 0), μ0)))
noncomputable def fX5_isWhole (rf : Nat → Nat → Nat) (a0 : Nat) (a1 : Nat) (a2 : Nat) (x3 : Int32) (μ0 : o_Mem) : Option (Int32 × o_Mem) :=
  if (μ0.1 a1 0) = x3 then (
    o_bd (o_lp 13 (fX5_isWhole_s13 rf a1 a2 x3) o_fuel (0 : Int32) μ0) fun ex1 μ1 =>
    if ex1.1 = 38 then (
      some (0, μ1))
    else
    if ex1.1 = 46 then (
      some (1, μ1))
    else
      none)
  else (
    some (0, μ0))
set_option maxRecDepth 20000 in
theorem dnX5_isWhole_s13 {X : o_Cx} (hX : o_ok X) {d : Nat} {a1 : Nat} {a2 : Nat} {x3 : Int32} {τ13 : Int32} {μ0 : o_Mem} {K : (Nat × (Int32)) → o_Mem → Prop} {Q : Option Value → o_Mem → Prop} (h1 : o_is X a1 (.inl 1)) (h2 : o_is X a2 (.inl 7)) (h : o_Post (fX5_isWhole_s13 (o_rf X) a1 a2 x3 τ13 μ0) K) (kh : ∀ (τ13 : Int32) (μ : o_Mem), K (13, τ13) μ → o_Ev X (d + 0) mX5_isWhole 13 [none, some (.ref (o_ad X a1)), some (.ref (o_ad X a2)), some (.int x3), some (.int τ13)] [] μ Q) (k38 : ∀ (τ13 : Int32) (μ : o_Mem), K (38, τ13) μ → o_Ev X (d + 0) mX5_isWhole 38 [none, none, none, none, none] [] μ Q) (k46 : ∀ (τ13 : Int32) (μ : o_Mem), K (46, τ13) μ → o_Ev X (d + 0) mX5_isWhole 46 [none, none, none, none, none] [] μ Q) : o_Ev X (d + 0) mX5_isWhole 13 [none, some (.ref (o_ad X a1)), some (.ref (o_ad X a2)), some (.int x3), some (.int τ13)] [] μ0 Q := by
  unfold fX5_isWhole_s13 at h
  refine s_iload dX5_isWhole_13 rfl ?_
  refine s_iload_n (i := 3) dX5_isWhole_15 rfl rfl ?_
  refine s_icmp_ge (tgt := 46) dX5_isWhole_16 rfl (fun c1 => ?_) (fun c1 => ?_)
  · have h := o_if_t c1 h
    refine s_mask [false, false, false, false, false] (L' := [none, none, none, none, none]) rfl ?_
    exact k46 0 _ (o_ret h)
  · have h := o_if_f c1 h
    refine s_aload_n (i := 2) dX5_isWhole_19 rfl rfl ?_
    refine s_getR hX h2 flX5_32 rfl dX5_isWhole_20 (fun (g1 : o_is X (o_rf X a2 3) (.inr (2, 60))) => ?_)
    refine s_iload dX5_isWhole_23 rfl ?_
    have hc := o_ck_c h
    have h := o_ck_k h
    refine s_laldK g1 hc rfl dX5_isWhole_25 ?_
    refine s_aload_n (i := 1) dX5_isWhole_26 rfl rfl ?_
    refine s_getR hX h1 flX5_37 rfl dX5_isWhole_27 (fun (g2 : o_is X (o_rf X a1 5) (.inr (0, 12))) => ?_)
    refine s_iload dX5_isWhole_30 rfl ?_
    have hc := o_ck_c h
    have h := o_ck_k h
    refine s_ialdK g2 hc rfl dX5_isWhole_32 ?_
    refine s_i2l dX5_isWhole_33 ?_
    refine s_lif_eq (tgt := 40) dX5_isWhole_34 dX5_isWhole_35 rfl (fun c1 => ?_) (fun c1 => ?_)
    · have h := o_if_t c1 h
      refine s_iinc (v := (τ13 + 1)) dX5_isWhole_40 rfl rfl (Nat.le_of_ble_eq_true rfl) rfl ?_
      refine s_goto (tgt := 13) dX5_isWhole_43 rfl ?_
      refine s_mask [false, true, true, true, true] (L' := [none, some (.ref (o_ad X a1)), some (.ref (o_ad X a2)), some (.int x3), some (.int (τ13 + 1))]) rfl ?_
      exact kh (τ13 + 1) _ (o_ret h)
    · have h := o_if_f c1 h
      refine s_mask [false, false, false, false, false] (L' := [none, none, none, none, none]) rfl ?_
      exact k38 0 _ (o_ret h)
set_option maxRecDepth 20000 in
theorem dnX5_isWhole {X : o_Cx} (hX : o_ok X) {d : Nat} {a0 : Nat} {a1 : Nat} {a2 : Nat} {x3 : Int32} {μ0 : o_Mem} {q : Int32 → o_Mem → Prop} (h0 : o_is X a0 (.inl 5)) (h1 : o_is X a1 (.inl 1)) (h2 : o_is X a2 (.inl 7)) (h : o_Post (fX5_isWhole (o_rf X) a0 a1 a2 x3 μ0) q) : o_Ev X (d + 0) mX5_isWhole 0 [some (.ref (o_ad X a0)), some (.ref (o_ad X a1)), some (.ref (o_ad X a2)), some (.int x3), none] [] μ0 (o_QZ q) := by
  unfold fX5_isWhole at h
  refine s_aload_n (i := 1) dX5_isWhole_0 rfl rfl ?_
  refine s_getI h1 flX5_28 rfl dX5_isWhole_1 ?_
  refine s_iload_n (i := 3) dX5_isWhole_4 rfl rfl ?_
  refine s_icmp_eq (tgt := 10) dX5_isWhole_5 rfl (fun c1 => ?_) (fun c1 => ?_)
  · have h := o_if_t c1 h
    refine s_iconst dX5_isWhole_10 kI_0 ?_
    refine s_istore dX5_isWhole_11 (Nat.le_of_ble_eq_true rfl) rfl ?_
    refine s_mask [false, true, true, true, true] (L' := [none, some (.ref (o_ad X a1)), some (.ref (o_ad X a2)), some (.int x3), some (.int 0)]) rfl ?_
    refine o_lp_ev (fun τ13 => [none, some (.ref (o_ad X a1)), some (.ref (o_ad X a2)), some (.int x3), some (.int τ13)]) (fun τ13 μ _K h kv ke13 => dnX5_isWhole_s13 hX h1 h2 h kv (fun τ13 μ1 h => ?_) (fun τ13 μ1 h => ?_)) o_fuel 0 μ0 (o_bdp h)
    · have h := o_if_t rfl (ke13 (38, τ13) μ1 (o_ne rfl) h)
      refine s_iconst dX5_isWhole_38 kI_0 ?_
      exact s_zreturn rfl (Or.inl rfl) dX5_isWhole_39 ⟨_, rfl, (Or.inl rfl), o_ret h⟩
    · have h := o_if_t rfl (o_if_f (o_ne rfl) (ke13 (46, τ13) μ1 (o_ne rfl) h))
      refine s_iconst dX5_isWhole_46 kI_1 ?_
      exact s_zreturn rfl (Or.inr rfl) dX5_isWhole_47 ⟨_, rfl, (Or.inr rfl), o_ret h⟩
  · have h := o_if_f c1 h
    refine s_iconst dX5_isWhole_8 kI_0 ?_
    exact s_zreturn rfl (Or.inl rfl) dX5_isWhole_9 ⟨_, rfl, (Or.inl rfl), o_ret h⟩
theorem dX8_soberStrike_0 : decode cX8_soberStrike 0 = .ok (.aload_n 0, 1) := by decide +kernel
theorem dX8_soberStrike_1 : decode cX8_soberStrike 1 = .ok (.aload_n 0, 1) := by decide +kernel
theorem dX8_soberStrike_2 : decode cX8_soberStrike 2 = .ok (.iload_n 1, 1) := by decide +kernel
theorem dX8_soberStrike_3 : decode cX8_soberStrike 3 = .ok (.iload_n 2, 1) := by decide +kernel
theorem dX8_soberStrike_4 : decode cX8_soberStrike 4 = .ok (.iload_n 3, 1) := by decide +kernel
theorem dX8_soberStrike_5 : decode cX8_soberStrike 5 = .ok (.iload 4, 2) := by decide +kernel
theorem dX8_soberStrike_7 : decode cX8_soberStrike 7 = .ok (.invokevirtual 121, 3) := by decide +kernel
theorem dX8_soberStrike_10 : decode cX8_soberStrike 10 = .ok (.invokevirtual 125, 3) := by decide +kernel
theorem dX8_soberStrike_13 : decode cX8_soberStrike 13 = .ok (.ireturn, 1) := by decide +kernel
noncomputable def fX8_soberStrike (rf : Nat → Nat → Nat) (a0 : Nat) (x1 : Int32) (x2 : Int32) (x3 : Int32) (x4 : Int32) (μ0 : o_Mem) : Option (Int32 × o_Mem) :=
  o_bd (fX8_firstFit rf a0 x1 x2 x3 x4 μ0) fun r1 μ1 =>
  o_bd (fX8_strikeBy rf a0 r1 μ1) fun r2 μ2 =>
  some (r2, μ2)
set_option maxRecDepth 20000 in
theorem dnX8_soberStrike {X : o_Cx} (hX : o_ok X) {d : Nat} {a0 : Nat} {x1 : Int32} {x2 : Int32} {x3 : Int32} {x4 : Int32} {μ0 : o_Mem} {q : Int32 → o_Mem → Prop} (h0 : o_is X a0 (.inl 8)) (h : o_Post (fX8_soberStrike (o_rf X) a0 x1 x2 x3 x4 μ0) q) : o_Ev X (d + 2) mX8_soberStrike 0 [some (.ref (o_ad X a0)), some (.int x1), some (.int x2), some (.int x3), some (.int x4)] [] μ0 (o_QI q) := by
  unfold fX8_soberStrike at h
  refine s_aload_n (i := 0) dX8_soberStrike_0 rfl rfl ?_
  refine s_aload_n (i := 0) dX8_soberStrike_1 rfl rfl ?_
  refine s_iload_n (i := 1) dX8_soberStrike_2 rfl rfl ?_
  refine s_iload_n (i := 2) dX8_soberStrike_3 rfl rfl ?_
  refine s_iload_n (i := 3) dX8_soberStrike_4 rfl rfl ?_
  refine s_iload dX8_soberStrike_5 rfl ?_
  refine s_callVi (C := mX8_firstFit) (As := [.int x1, .int x2, .int x3, .int x4]) (rest := [.ref (o_ad X a0)]) (L0 := [some (.ref (o_ad X a0)), some (.int x1), some (.int x2), some (.int x3), some (.int x4), none]) hX h0 clX8_121 dX8_soberStrike_7 rfl rfl (Nat.le_of_ble_eq_true rfl) (Nat.le_of_ble_eq_true rfl) (dnX8_firstFit hX h0 (o_bdp h)) (fun r1 μ1 h => ?_)
  refine s_callVi (C := mX8_strikeBy) (As := [.int r1]) (rest := []) (L0 := [some (.ref (o_ad X a0)), some (.int r1)]) hX h0 clX8_125 dX8_soberStrike_10 rfl rfl (Nat.le_of_ble_eq_true rfl) (Nat.le_of_ble_eq_true rfl) (dnX8_strikeBy hX h0 (o_bdp h)) (fun r2 μ2 h => ?_)
  exact s_ireturn rfl dX8_soberStrike_13 ⟨_, rfl, o_ret h⟩
theorem dX8_lightest_0 : decode cX8_lightest 0 = .ok (.iload_n 3, 1) := by decide +kernel
theorem dX8_lightest_1 : decode cX8_lightest 1 = .ok (.istore 6, 2) := by decide +kernel
theorem dX8_lightest_3 : decode cX8_lightest 3 = .ok (.iload 6, 2) := by decide +kernel
theorem dX8_lightest_5 : decode cX8_lightest 5 = .ok (.bipush 99, 2) := by decide +kernel
theorem dX8_lightest_7 : decode cX8_lightest 7 = .ok (.if_icmp .gt 27, 3) := by decide +kernel
theorem dX8_lightest_10 : decode cX8_lightest 10 = .ok (.aload_n 0, 1) := by decide +kernel
theorem dX8_lightest_11 : decode cX8_lightest 11 = .ok (.iload_n 1, 1) := by decide +kernel
theorem dX8_lightest_12 : decode cX8_lightest 12 = .ok (.iload_n 2, 1) := by decide +kernel
theorem dX8_lightest_13 : decode cX8_lightest 13 = .ok (.iload 6, 2) := by decide +kernel
theorem dX8_lightest_15 : decode cX8_lightest 15 = .ok (.iload 4, 2) := by decide +kernel
theorem dX8_lightest_17 : decode cX8_lightest 17 = .ok (.invokevirtual 128, 3) := by decide +kernel
theorem dX8_lightest_20 : decode cX8_lightest 20 = .ok (.iload 5, 2) := by decide +kernel
theorem dX8_lightest_22 : decode cX8_lightest 22 = .ok (.if_icmp .ne 6, 3) := by decide +kernel
theorem dX8_lightest_25 : decode cX8_lightest 25 = .ok (.iload 6, 2) := by decide +kernel
theorem dX8_lightest_27 : decode cX8_lightest 27 = .ok (.ireturn, 1) := by decide +kernel
theorem dX8_lightest_28 : decode cX8_lightest 28 = .ok (.iinc 6 1, 3) := by decide +kernel
theorem dX8_lightest_31 : decode cX8_lightest 31 = .ok (.goto (-28), 3) := by decide +kernel
theorem dX8_lightest_34 : decode cX8_lightest 34 = .ok (.iconst (-1), 1) := by decide +kernel
theorem dX8_lightest_35 : decode cX8_lightest 35 = .ok (.ireturn, 1) := by decide +kernel
noncomputable def fX8_lightest_s3 (rf : Nat → Nat → Nat) (a0 : Nat) (x1 : Int32) (x2 : Int32) (x4 : Int32) (x5 : Int32) (τ3 : Int32) (μ0 : o_Mem) : Option ((Nat × (Int32)) × o_Mem) :=
  if 99 < τ3 then (
    some ((34, 0), μ0))
  else (
    o_bd (fX8_soberStrike rf a0 x1 x2 τ3 x4 μ0) fun r1 μ1 =>
    if r1 = x5 then (
      some ((25, τ3), μ1))
    else (
      some ((3, (τ3 + 1)), μ1)))
noncomputable def fX8_lightest (rf : Nat → Nat → Nat) (a0 : Nat) (x1 : Int32) (x2 : Int32) (x3 : Int32) (x4 : Int32) (x5 : Int32) (μ0 : o_Mem) : Option (Int32 × o_Mem) :=
  o_bd (o_lp 3 (fX8_lightest_s3 rf a0 x1 x2 x4 x5) o_fuel (x3 : Int32) μ0) fun ex1 μ1 =>
  if ex1.1 = 25 then (
    some (ex1.2, μ1))
  else
  if ex1.1 = 34 then (
    some ((-1), μ1))
  else
    none
set_option maxRecDepth 20000 in
theorem dnX8_lightest_s3 {X : o_Cx} (hX : o_ok X) {d : Nat} {a0 : Nat} {x1 : Int32} {x2 : Int32} {x4 : Int32} {x5 : Int32} {τ3 : Int32} {μ0 : o_Mem} {K : (Nat × (Int32)) → o_Mem → Prop} {Q : Option Value → o_Mem → Prop} (h0 : o_is X a0 (.inl 8)) (h : o_Post (fX8_lightest_s3 (o_rf X) a0 x1 x2 x4 x5 τ3 μ0) K) (kh : ∀ (τ3 : Int32) (μ : o_Mem), K (3, τ3) μ → o_Ev X (d + 3) mX8_lightest 3 [some (.ref (o_ad X a0)), some (.int x1), some (.int x2), none, some (.int x4), some (.int x5), some (.int τ3)] [] μ Q) (k25 : ∀ (τ3 : Int32) (μ : o_Mem), K (25, τ3) μ → o_Ev X (d + 3) mX8_lightest 25 [none, none, none, none, none, none, some (.int τ3)] [] μ Q) (k34 : ∀ (τ3 : Int32) (μ : o_Mem), K (34, τ3) μ → o_Ev X (d + 3) mX8_lightest 34 [none, none, none, none, none, none, none] [] μ Q) : o_Ev X (d + 3) mX8_lightest 3 [some (.ref (o_ad X a0)), some (.int x1), some (.int x2), none, some (.int x4), some (.int x5), some (.int τ3)] [] μ0 Q := by
  unfold fX8_lightest_s3 at h
  refine s_iload dX8_lightest_3 rfl ?_
  refine s_bipush dX8_lightest_5 kB_99 ?_
  refine s_icmp_gt (tgt := 34) dX8_lightest_7 rfl (fun c1 => ?_) (fun c1 => ?_)
  · have h := o_if_t c1 h
    refine s_mask [false, false, false, false, false, false, false] (L' := [none, none, none, none, none, none, none]) rfl ?_
    exact k34 0 _ (o_ret h)
  · have h := o_if_f c1 h
    refine s_aload_n (i := 0) dX8_lightest_10 rfl rfl ?_
    refine s_iload_n (i := 1) dX8_lightest_11 rfl rfl ?_
    refine s_iload_n (i := 2) dX8_lightest_12 rfl rfl ?_
    refine s_iload dX8_lightest_13 rfl ?_
    refine s_iload dX8_lightest_15 rfl ?_
    refine s_callVi (C := mX8_soberStrike) (As := [.int x1, .int x2, .int τ3, .int x4]) (rest := []) (L0 := [some (.ref (o_ad X a0)), some (.int x1), some (.int x2), some (.int τ3), some (.int x4)]) hX h0 clX8_128 dX8_lightest_17 rfl rfl (Nat.le_of_ble_eq_true rfl) (Nat.le_of_ble_eq_true rfl) (dnX8_soberStrike hX h0 (o_bdp h)) (fun r1 μ1 h => ?_)
    refine s_iload dX8_lightest_20 rfl ?_
    refine s_icmp_ne (tgt := 28) dX8_lightest_22 rfl (fun c1 => ?_) (fun c1 => ?_)
    · have h := o_if_f c1 h
      refine s_iinc (v := (τ3 + 1)) dX8_lightest_28 rfl rfl (Nat.le_of_ble_eq_true rfl) rfl ?_
      refine s_goto (tgt := 3) dX8_lightest_31 rfl ?_
      refine s_mask [true, true, true, false, true, true, true] (L' := [some (.ref (o_ad X a0)), some (.int x1), some (.int x2), none, some (.int x4), some (.int x5), some (.int (τ3 + 1))]) rfl ?_
      exact kh (τ3 + 1) _ (o_ret h)
    · have h := o_if_t c1 h
      refine s_mask [false, false, false, false, false, false, true] (L' := [none, none, none, none, none, none, some (.int τ3)]) rfl ?_
      exact k25 τ3 _ (o_ret h)
set_option maxRecDepth 20000 in
theorem dnX8_lightest {X : o_Cx} (hX : o_ok X) {d : Nat} {a0 : Nat} {x1 : Int32} {x2 : Int32} {x3 : Int32} {x4 : Int32} {x5 : Int32} {μ0 : o_Mem} {q : Int32 → o_Mem → Prop} (h0 : o_is X a0 (.inl 8)) (h : o_Post (fX8_lightest (o_rf X) a0 x1 x2 x3 x4 x5 μ0) q) : o_Ev X (d + 3) mX8_lightest 0 [some (.ref (o_ad X a0)), some (.int x1), some (.int x2), some (.int x3), some (.int x4), some (.int x5), none] [] μ0 (o_QI q) := by
  unfold fX8_lightest at h
  refine s_iload_n (i := 3) dX8_lightest_0 rfl rfl ?_
  refine s_istore dX8_lightest_1 (Nat.le_of_ble_eq_true rfl) rfl ?_
  refine s_mask [true, true, true, false, true, true, true] (L' := [some (.ref (o_ad X a0)), some (.int x1), some (.int x2), none, some (.int x4), some (.int x5), some (.int x3)]) rfl ?_
  refine o_lp_ev (fun τ3 => [some (.ref (o_ad X a0)), some (.int x1), some (.int x2), none, some (.int x4), some (.int x5), some (.int τ3)]) (fun τ3 μ _K h kv ke3 => dnX8_lightest_s3 hX h0 h kv (fun τ3 μ1 h => ?_) (fun τ3 μ1 h => ?_)) o_fuel x3 μ0 (o_bdp h)
  · have h := o_if_t rfl (ke3 (25, τ3) μ1 (o_ne rfl) h)
    refine s_iload dX8_lightest_25 rfl ?_
    exact s_ireturn rfl dX8_lightest_27 ⟨_, rfl, o_ret h⟩
  · have h := o_if_t rfl (o_if_f (o_ne rfl) (ke3 (34, τ3) μ1 (o_ne rfl) h))
    refine s_iconst dX8_lightest_34 kI_m1 ?_
    exact s_ireturn rfl dX8_lightest_35 ⟨_, rfl, o_ret h⟩
theorem dX5_spellOne_0 : decode cX5_spellOne 0 = .ok (.iload_n 2, 1) := by decide +kernel
theorem dX5_spellOne_1 : decode cX5_spellOne 1 = .ok (.istore 4, 2) := by decide +kernel
theorem dX5_spellOne_3 : decode cX5_spellOne 3 = .ok (.iload 4, 2) := by decide +kernel
theorem dX5_spellOne_5 : decode cX5_spellOne 5 = .ok (.aload_n 1, 1) := by decide +kernel
theorem dX5_spellOne_6 : decode cX5_spellOne 6 = .ok (.getfield 45, 3) := by decide +kernel
theorem dX5_spellOne_9 : decode cX5_spellOne 9 = .ok (.if_icmp .ge 86, 3) := by decide +kernel
theorem dX5_spellOne_12 : decode cX5_spellOne 12 = .ok (.iconst 0, 1) := by decide +kernel
theorem dX5_spellOne_13 : decode cX5_spellOne 13 = .ok (.istore 5, 2) := by decide +kernel
theorem dX5_spellOne_15 : decode cX5_spellOne 15 = .ok (.iload 5, 2) := by decide +kernel
theorem dX5_spellOne_17 : decode cX5_spellOne 17 = .ok (.aload_n 1, 1) := by decide +kernel
theorem dX5_spellOne_18 : decode cX5_spellOne 18 = .ok (.getfield 45, 3) := by decide +kernel
theorem dX5_spellOne_21 : decode cX5_spellOne 21 = .ok (.if_icmp .ge 68, 3) := by decide +kernel
theorem dX5_spellOne_24 : decode cX5_spellOne 24 = .ok (.aload_n 1, 1) := by decide +kernel
theorem dX5_spellOne_25 : decode cX5_spellOne 25 = .ok (.getfield 50, 3) := by decide +kernel
theorem dX5_spellOne_28 : decode cX5_spellOne 28 = .ok (.iload 5, 2) := by decide +kernel
theorem dX5_spellOne_30 : decode cX5_spellOne 30 = .ok (.iaload, 1) := by decide +kernel
theorem dX5_spellOne_31 : decode cX5_spellOne 31 = .ok (.istore 6, 2) := by decide +kernel
theorem dX5_spellOne_33 : decode cX5_spellOne 33 = .ok (.iload 5, 2) := by decide +kernel
theorem dX5_spellOne_35 : decode cX5_spellOne 35 = .ok (.iload 4, 2) := by decide +kernel
theorem dX5_spellOne_37 : decode cX5_spellOne 37 = .ok (.if_icmp .ne 7, 3) := by decide +kernel
theorem dX5_spellOne_40 : decode cX5_spellOne 40 = .ok (.iconst (-1), 1) := by decide +kernel
theorem dX5_spellOne_41 : decode cX5_spellOne 41 = .ok (.goto 15, 3) := by decide +kernel
theorem dX5_spellOne_44 : decode cX5_spellOne 44 = .ok (.aload_n 1, 1) := by decide +kernel
theorem dX5_spellOne_45 : decode cX5_spellOne 45 = .ok (.iload 5, 2) := by decide +kernel
theorem dX5_spellOne_47 : decode cX5_spellOne 47 = .ok (.iload 4, 2) := by decide +kernel
theorem dX5_spellOne_49 : decode cX5_spellOne 49 = .ok (.iconst 1, 1) := by decide +kernel
theorem dX5_spellOne_50 : decode cX5_spellOne 50 = .ok (.iload 6, 2) := by decide +kernel
theorem dX5_spellOne_52 : decode cX5_spellOne 52 = .ok (.iload_n 3, 1) := by decide +kernel
theorem dX5_spellOne_53 : decode cX5_spellOne 53 = .ok (.invokevirtual 53, 3) := by decide +kernel
theorem dX5_spellOne_56 : decode cX5_spellOne 56 = .ok (.istore 7, 2) := by decide +kernel
theorem dX5_spellOne_58 : decode cX5_spellOne 58 = .ok (.iload 7, 2) := by decide +kernel
theorem dX5_spellOne_60 : decode cX5_spellOne 60 = .ok (.iconst (-1), 1) := by decide +kernel
theorem dX5_spellOne_61 : decode cX5_spellOne 61 = .ok (.if_icmp .eq 22, 3) := by decide +kernel
theorem dX5_spellOne_64 : decode cX5_spellOne 64 = .ok (.aload_n 0, 1) := by decide +kernel
theorem dX5_spellOne_65 : decode cX5_spellOne 65 = .ok (.getfield 12, 3) := by decide +kernel
theorem dX5_spellOne_68 : decode cX5_spellOne 68 = .ok (.iload 5, 2) := by decide +kernel
theorem dX5_spellOne_70 : decode cX5_spellOne 70 = .ok (.iload 4, 2) := by decide +kernel
theorem dX5_spellOne_72 : decode cX5_spellOne 72 = .ok (.iload 7, 2) := by decide +kernel
theorem dX5_spellOne_74 : decode cX5_spellOne 74 = .ok (.iload 6, 2) := by decide +kernel
theorem dX5_spellOne_76 : decode cX5_spellOne 76 = .ok (.iload_n 3, 1) := by decide +kernel
theorem dX5_spellOne_77 : decode cX5_spellOne 77 = .ok (.invokevirtual 57, 3) := by decide +kernel
theorem dX5_spellOne_80 : decode cX5_spellOne 80 = .ok (.iload 4, 2) := by decide +kernel
theorem dX5_spellOne_82 : decode cX5_spellOne 82 = .ok (.ireturn, 1) := by decide +kernel
theorem dX5_spellOne_83 : decode cX5_spellOne 83 = .ok (.iinc 5 1, 3) := by decide +kernel
theorem dX5_spellOne_86 : decode cX5_spellOne 86 = .ok (.goto (-71), 3) := by decide +kernel
theorem dX5_spellOne_89 : decode cX5_spellOne 89 = .ok (.iinc 4 1, 3) := by decide +kernel
theorem dX5_spellOne_92 : decode cX5_spellOne 92 = .ok (.goto (-89), 3) := by decide +kernel
theorem dX5_spellOne_95 : decode cX5_spellOne 95 = .ok (.iconst (-1), 1) := by decide +kernel
theorem dX5_spellOne_96 : decode cX5_spellOne 96 = .ok (.ireturn, 1) := by decide +kernel
noncomputable def fX5_spellOne_j56 (rf : Nat → Nat → Nat) (a0 : Nat) (a1 : Nat) (x3 : Int32) (x4 : Int32) (x5 : Int32) (x6 : Int32) (y0 : Int32) (μ0 : o_Mem) : Option ((Nat × (Int32 × Int32 × Int32)) × o_Mem) :=
  if y0 = (-1) then (
    some ((15, ((x5 + 1), 0, 0)), μ0))
  else (
    some ((64, (x5, x6, y0)), μ0))
noncomputable def fX5_spellOne_s15 (rf : Nat → Nat → Nat) (a0 : Nat) (a1 : Nat) (x3 : Int32) (x4 : Int32) (τ15 : Int32 × Int32 × Int32) (μ0 : o_Mem) : Option ((Nat × (Int32 × Int32 × Int32)) × o_Mem) :=
  if (μ0.1 a1 2) ≤ τ15.1 then (
    some ((89, (0, 0, 0)), μ0))
  else (
    o_ck (0 ≤ (τ15.1).toInt ∧ (τ15.1).toInt < 6) <|
    if τ15.1 = x4 then (
      fX5_spellOne_j56 rf a0 a1 x3 x4 τ15.1 (μ0.1 (rf a1 11) (τ15.1).toNatClampNeg) (-1) μ0)
    else (
      o_bd (fX8_lightest rf a1 τ15.1 x4 1 (μ0.1 (rf a1 11) (τ15.1).toNatClampNeg) x3 μ0) fun r1 μ1 =>
      fX5_spellOne_j56 rf a0 a1 x3 x4 τ15.1 (μ0.1 (rf a1 11) (τ15.1).toNatClampNeg) r1 μ1))
noncomputable def fX5_spellOne_s3 (rf : Nat → Nat → Nat) (a0 : Nat) (a1 : Nat) (x3 : Int32) (τ3 : Int32 × Int32 × Int32 × Int32) (μ0 : o_Mem) : Option ((Nat × (Int32 × Int32 × Int32 × Int32)) × o_Mem) :=
  if (μ0.1 a1 2) ≤ τ3.1 then (
    some ((95, (0, 0, 0, 0)), μ0))
  else (
    o_bd (o_lp 15 (fX5_spellOne_s15 rf a0 a1 x3 τ3.1) o_fuel (0, 0, 0) μ0) fun ex1 μ1 =>
    if ex1.1 = 64 then (
      some ((64, (τ3.1, ex1.2.1, ex1.2.2.1, ex1.2.2.2)), μ1))
    else
    if ex1.1 = 89 then (
      some ((3, ((τ3.1 + 1), 0, 0, 0)), μ1))
    else
      none)
noncomputable def fX5_spellOne (rf : Nat → Nat → Nat) (a0 : Nat) (a1 : Nat) (x2 : Int32) (x3 : Int32) (μ0 : o_Mem) : Option (Int32 × o_Mem) :=
  o_bd (o_lp 3 (fX5_spellOne_s3 rf a0 a1 x3) o_fuel (x2, 0, 0, 0) μ0) fun ex1 μ1 =>
  if ex1.1 = 64 then (
    o_bd (fX1_add rf (rf a0 0) ex1.2.2.1 ex1.2.1 ex1.2.2.2.2 ex1.2.2.2.1 x3 μ1) fun _u μ2 =>
    some (ex1.2.1, μ2))
  else
  if ex1.1 = 95 then (
    some ((-1), μ1))
  else
    none
set_option maxRecDepth 20000 in
theorem dnX5_spellOne_j56 {X : o_Cx} (hX : o_ok X) {d : Nat} {a0 : Nat} {a1 : Nat} {x3 : Int32} {x4 : Int32} {x5 : Int32} {x6 : Int32} {y0 : Int32} {μ0 : o_Mem} {K : (Nat × (Int32 × Int32 × Int32)) → o_Mem → Prop} {Q : Option Value → o_Mem → Prop} (h0 : o_is X a0 (.inl 5)) (h1 : o_is X a1 (.inl 8)) (h : o_Post (fX5_spellOne_j56 (o_rf X) a0 a1 x3 x4 x5 x6 y0 μ0) K) (kh : ∀ (τ15 : Int32 × Int32 × Int32) (μ : o_Mem), K (15, τ15) μ → o_Ev X (d + 4) mX5_spellOne 15 [some (.ref (o_ad X a0)), some (.ref (o_ad X a1)), none, some (.int x3), some (.int x4), some (.int τ15.1), none, none] [] μ Q) (k64 : ∀ (τ15 : Int32 × Int32 × Int32) (μ : o_Mem), K (64, τ15) μ → o_Ev X (d + 4) mX5_spellOne 64 [some (.ref (o_ad X a0)), none, none, some (.int x3), some (.int x4), some (.int τ15.1), some (.int τ15.2.1), some (.int τ15.2.2)] [] μ Q) (k89 : ∀ (τ15 : Int32 × Int32 × Int32) (μ : o_Mem), K (89, τ15) μ → o_Ev X (d + 4) mX5_spellOne 89 [some (.ref (o_ad X a0)), some (.ref (o_ad X a1)), none, some (.int x3), some (.int x4), none, none, none] [] μ Q) : o_Ev X (d + 4) mX5_spellOne 56 [some (.ref (o_ad X a0)), some (.ref (o_ad X a1)), none, some (.int x3), some (.int x4), some (.int x5), some (.int x6), none] [.int y0] μ0 Q := by
  unfold fX5_spellOne_j56 at h
  refine s_istore dX5_spellOne_56 (Nat.le_of_ble_eq_true rfl) rfl ?_
  refine s_iload dX5_spellOne_58 rfl ?_
  refine s_iconst dX5_spellOne_60 kI_m1 ?_
  refine s_icmp_eq (tgt := 83) dX5_spellOne_61 rfl (fun c1 => ?_) (fun c1 => ?_)
  · have h := o_if_t c1 h
    refine s_iinc (v := (x5 + 1)) dX5_spellOne_83 rfl rfl (Nat.le_of_ble_eq_true rfl) rfl ?_
    refine s_goto (tgt := 15) dX5_spellOne_86 rfl ?_
    refine s_mask [true, true, false, true, true, true, false, false] (L' := [some (.ref (o_ad X a0)), some (.ref (o_ad X a1)), none, some (.int x3), some (.int x4), some (.int (x5 + 1)), none, none]) rfl ?_
    exact kh ((x5 + 1), 0, 0) _ (o_ret h)
  · have h := o_if_f c1 h
    refine s_mask [true, false, false, true, true, true, true, true] (L' := [some (.ref (o_ad X a0)), none, none, some (.int x3), some (.int x4), some (.int x5), some (.int x6), some (.int y0)]) rfl ?_
    exact k64 (x5, x6, y0) _ (o_ret h)
set_option maxRecDepth 20000 in
theorem dnX5_spellOne_s15 {X : o_Cx} (hX : o_ok X) {d : Nat} {a0 : Nat} {a1 : Nat} {x3 : Int32} {x4 : Int32} {τ15 : Int32 × Int32 × Int32} {μ0 : o_Mem} {K : (Nat × (Int32 × Int32 × Int32)) → o_Mem → Prop} {Q : Option Value → o_Mem → Prop} (h0 : o_is X a0 (.inl 5)) (h1 : o_is X a1 (.inl 8)) (h : o_Post (fX5_spellOne_s15 (o_rf X) a0 a1 x3 x4 τ15 μ0) K) (kh : ∀ (τ15 : Int32 × Int32 × Int32) (μ : o_Mem), K (15, τ15) μ → o_Ev X (d + 4) mX5_spellOne 15 [some (.ref (o_ad X a0)), some (.ref (o_ad X a1)), none, some (.int x3), some (.int x4), some (.int τ15.1), none, none] [] μ Q) (k64 : ∀ (τ15 : Int32 × Int32 × Int32) (μ : o_Mem), K (64, τ15) μ → o_Ev X (d + 4) mX5_spellOne 64 [some (.ref (o_ad X a0)), none, none, some (.int x3), some (.int x4), some (.int τ15.1), some (.int τ15.2.1), some (.int τ15.2.2)] [] μ Q) (k89 : ∀ (τ15 : Int32 × Int32 × Int32) (μ : o_Mem), K (89, τ15) μ → o_Ev X (d + 4) mX5_spellOne 89 [some (.ref (o_ad X a0)), some (.ref (o_ad X a1)), none, some (.int x3), some (.int x4), none, none, none] [] μ Q) : o_Ev X (d + 4) mX5_spellOne 15 [some (.ref (o_ad X a0)), some (.ref (o_ad X a1)), none, some (.int x3), some (.int x4), some (.int τ15.1), none, none] [] μ0 Q := by
  unfold fX5_spellOne_s15 at h
  refine s_iload dX5_spellOne_15 rfl ?_
  refine s_aload_n (i := 1) dX5_spellOne_17 rfl rfl ?_
  refine s_getI h1 flX5_45 rfl dX5_spellOne_18 ?_
  refine s_icmp_ge (tgt := 89) dX5_spellOne_21 rfl (fun c1 => ?_) (fun c1 => ?_)
  · have h := o_if_t c1 h
    refine s_mask [true, true, false, true, true, false, false, false] (L' := [some (.ref (o_ad X a0)), some (.ref (o_ad X a1)), none, some (.int x3), some (.int x4), none, none, none]) rfl ?_
    exact k89 (0, 0, 0) _ (o_ret h)
  · have h := o_if_f c1 h
    refine s_aload_n (i := 1) dX5_spellOne_24 rfl rfl ?_
    refine s_getR hX h1 flX5_50 rfl dX5_spellOne_25 (fun (g1 : o_is X (o_rf X a1 11) (.inr (0, 6))) => ?_)
    refine s_iload dX5_spellOne_28 rfl ?_
    have hc := o_ck_c h
    have h := o_ck_k h
    refine s_ialdK g1 hc rfl dX5_spellOne_30 ?_
    refine s_istore dX5_spellOne_31 (Nat.le_of_ble_eq_true rfl) rfl ?_
    refine s_iload dX5_spellOne_33 rfl ?_
    refine s_iload dX5_spellOne_35 rfl ?_
    refine s_icmp_ne (tgt := 44) dX5_spellOne_37 rfl (fun c1 => ?_) (fun c1 => ?_)
    · have h := o_if_f c1 h
      refine s_aload_n (i := 1) dX5_spellOne_44 rfl rfl ?_
      refine s_iload dX5_spellOne_45 rfl ?_
      refine s_iload dX5_spellOne_47 rfl ?_
      refine s_iconst dX5_spellOne_49 kI_1 ?_
      refine s_iload dX5_spellOne_50 rfl ?_
      refine s_iload_n (i := 3) dX5_spellOne_52 rfl rfl ?_
      refine s_callVi (C := mX8_lightest) (As := [.int τ15.1, .int x4, .int 1, .int (μ0.1 (o_rf X a1 11) (τ15.1).toNatClampNeg), .int x3]) (rest := []) (L0 := [some (.ref (o_ad X a1)), some (.int τ15.1), some (.int x4), some (.int 1), some (.int (μ0.1 (o_rf X a1 11) (τ15.1).toNatClampNeg)), some (.int x3), none]) hX h1 clX5_53 dX5_spellOne_53 rfl rfl (Nat.le_of_ble_eq_true rfl) (Nat.le_of_ble_eq_true rfl) (dnX8_lightest hX h1 (o_bdp h)) (fun r1 μ1 h => ?_)
      refine s_mask [true, true, false, true, true, true, true, false] (L' := [some (.ref (o_ad X a0)), some (.ref (o_ad X a1)), none, some (.int x3), some (.int x4), some (.int τ15.1), some (.int (μ0.1 (o_rf X a1 11) (τ15.1).toNatClampNeg)), none]) rfl ?_
      exact dnX5_spellOne_j56 hX h0 h1 h kh k64 k89
    · have h := o_if_t c1 h
      refine s_iconst dX5_spellOne_40 kI_m1 ?_
      refine s_goto (tgt := 56) dX5_spellOne_41 rfl ?_
      refine s_mask [true, true, false, true, true, true, true, false] (L' := [some (.ref (o_ad X a0)), some (.ref (o_ad X a1)), none, some (.int x3), some (.int x4), some (.int τ15.1), some (.int (μ0.1 (o_rf X a1 11) (τ15.1).toNatClampNeg)), none]) rfl ?_
      exact dnX5_spellOne_j56 hX h0 h1 h kh k64 k89
set_option maxRecDepth 20000 in
theorem dnX5_spellOne_s3 {X : o_Cx} (hX : o_ok X) {d : Nat} {a0 : Nat} {a1 : Nat} {x3 : Int32} {τ3 : Int32 × Int32 × Int32 × Int32} {μ0 : o_Mem} {K : (Nat × (Int32 × Int32 × Int32 × Int32)) → o_Mem → Prop} {Q : Option Value → o_Mem → Prop} (h0 : o_is X a0 (.inl 5)) (h1 : o_is X a1 (.inl 8)) (h : o_Post (fX5_spellOne_s3 (o_rf X) a0 a1 x3 τ3 μ0) K) (kh : ∀ (τ3 : Int32 × Int32 × Int32 × Int32) (μ : o_Mem), K (3, τ3) μ → o_Ev X (d + 4) mX5_spellOne 3 [some (.ref (o_ad X a0)), some (.ref (o_ad X a1)), none, some (.int x3), some (.int τ3.1), none, none, none] [] μ Q) (k64 : ∀ (τ3 : Int32 × Int32 × Int32 × Int32) (μ : o_Mem), K (64, τ3) μ → o_Ev X (d + 4) mX5_spellOne 64 [some (.ref (o_ad X a0)), none, none, some (.int x3), some (.int τ3.1), some (.int τ3.2.1), some (.int τ3.2.2.1), some (.int τ3.2.2.2)] [] μ Q) (k95 : ∀ (τ3 : Int32 × Int32 × Int32 × Int32) (μ : o_Mem), K (95, τ3) μ → o_Ev X (d + 4) mX5_spellOne 95 [none, none, none, none, none, none, none, none] [] μ Q) : o_Ev X (d + 4) mX5_spellOne 3 [some (.ref (o_ad X a0)), some (.ref (o_ad X a1)), none, some (.int x3), some (.int τ3.1), none, none, none] [] μ0 Q := by
  unfold fX5_spellOne_s3 at h
  refine s_iload dX5_spellOne_3 rfl ?_
  refine s_aload_n (i := 1) dX5_spellOne_5 rfl rfl ?_
  refine s_getI h1 flX5_45 rfl dX5_spellOne_6 ?_
  refine s_icmp_ge (tgt := 95) dX5_spellOne_9 rfl (fun c1 => ?_) (fun c1 => ?_)
  · have h := o_if_t c1 h
    refine s_mask [false, false, false, false, false, false, false, false] (L' := [none, none, none, none, none, none, none, none]) rfl ?_
    exact k95 (0, 0, 0, 0) _ (o_ret h)
  · have h := o_if_f c1 h
    refine s_iconst dX5_spellOne_12 kI_0 ?_
    refine s_istore dX5_spellOne_13 (Nat.le_of_ble_eq_true rfl) rfl ?_
    refine s_mask [true, true, false, true, true, true, false, false] (L' := [some (.ref (o_ad X a0)), some (.ref (o_ad X a1)), none, some (.int x3), some (.int τ3.1), some (.int 0), none, none]) rfl ?_
    refine o_lp_ev (fun τ15 => [some (.ref (o_ad X a0)), some (.ref (o_ad X a1)), none, some (.int x3), some (.int τ3.1), some (.int τ15.1), none, none]) (fun τ15 μ _K h kv ke15 => dnX5_spellOne_s15 hX h0 h1 h kv (fun τ15 μ1 h => ?_) (fun τ15 μ1 h => ?_)) o_fuel (0, 0, 0) μ0 (o_bdp h)
    · have h := o_if_t rfl (ke15 (64, τ15) μ1 (o_ne rfl) h)
      refine s_mask [true, false, false, true, true, true, true, true] (L' := [some (.ref (o_ad X a0)), none, none, some (.int x3), some (.int τ3.1), some (.int τ15.1), some (.int τ15.2.1), some (.int τ15.2.2)]) rfl ?_
      exact k64 (τ3.1, τ15.1, τ15.2.1, τ15.2.2) _ (o_ret h)
    · have h := o_if_t rfl (o_if_f (o_ne rfl) (ke15 (89, τ15) μ1 (o_ne rfl) h))
      refine s_iinc (v := (τ3.1 + 1)) dX5_spellOne_89 rfl rfl (Nat.le_of_ble_eq_true rfl) rfl ?_
      refine s_goto (tgt := 3) dX5_spellOne_92 rfl ?_
      refine s_mask [true, true, false, true, true, false, false, false] (L' := [some (.ref (o_ad X a0)), some (.ref (o_ad X a1)), none, some (.int x3), some (.int (τ3.1 + 1)), none, none, none]) rfl ?_
      exact kh ((τ3.1 + 1), 0, 0, 0) _ (o_ret h)
set_option maxRecDepth 20000 in
theorem dnX5_spellOne {X : o_Cx} (hX : o_ok X) {d : Nat} {a0 : Nat} {a1 : Nat} {x2 : Int32} {x3 : Int32} {μ0 : o_Mem} {q : Int32 → o_Mem → Prop} (h0 : o_is X a0 (.inl 5)) (h1 : o_is X a1 (.inl 8)) (h : o_Post (fX5_spellOne (o_rf X) a0 a1 x2 x3 μ0) q) : o_Ev X (d + 4) mX5_spellOne 0 [some (.ref (o_ad X a0)), some (.ref (o_ad X a1)), some (.int x2), some (.int x3), none, none, none, none] [] μ0 (o_QI q) := by
  unfold fX5_spellOne at h
  refine s_iload_n (i := 2) dX5_spellOne_0 rfl rfl ?_
  refine s_istore dX5_spellOne_1 (Nat.le_of_ble_eq_true rfl) rfl ?_
  refine s_mask [true, true, false, true, true, false, false, false] (L' := [some (.ref (o_ad X a0)), some (.ref (o_ad X a1)), none, some (.int x3), some (.int x2), none, none, none]) rfl ?_
  refine o_lp_ev (fun τ3 => [some (.ref (o_ad X a0)), some (.ref (o_ad X a1)), none, some (.int x3), some (.int τ3.1), none, none, none]) (fun τ3 μ _K h kv ke3 => dnX5_spellOne_s3 hX h0 h1 h kv (fun τ3 μ1 h => ?_) (fun τ3 μ1 h => ?_)) o_fuel (x2, 0, 0, 0) μ0 (o_bdp h)
  · have h := o_if_t rfl (ke3 (64, τ3) μ1 (o_ne rfl) h)
    refine s_aload_n (i := 0) dX5_spellOne_64 rfl rfl ?_
    refine s_getR hX h0 flX5_12 rfl dX5_spellOne_65 (fun (g1 : o_is X (o_rf X a0 0) (.inl 1)) => ?_)
    refine s_iload dX5_spellOne_68 rfl ?_
    refine s_iload dX5_spellOne_70 rfl ?_
    refine s_iload dX5_spellOne_72 rfl ?_
    refine s_iload dX5_spellOne_74 rfl ?_
    refine s_iload_n (i := 3) dX5_spellOne_76 rfl rfl ?_
    refine s_callVu (C := mX1_add) (As := [.int τ3.2.1, .int τ3.1, .int τ3.2.2.2, .int τ3.2.2.1, .int x3]) (rest := []) (L0 := [some (.ref (o_ad X (o_rf X a0 0))), some (.int τ3.2.1), some (.int τ3.1), some (.int τ3.2.2.2), some (.int τ3.2.2.1), some (.int x3)]) hX g1 clX5_57 dX5_spellOne_77 rfl rfl (Nat.le_of_ble_eq_true rfl) (Nat.le_of_ble_eq_true rfl) (dnX1_add hX g1 (o_bdp h)) (fun _u μ2 h => ?_)
    refine s_iload dX5_spellOne_80 rfl ?_
    exact s_ireturn rfl dX5_spellOne_82 ⟨_, rfl, o_ret h⟩
  · have h := o_if_t rfl (o_if_f (o_ne rfl) (ke3 (95, τ3) μ1 (o_ne rfl) h))
    refine s_iconst dX5_spellOne_95 kI_m1 ?_
    exact s_ireturn rfl dX5_spellOne_96 ⟨_, rfl, o_ret h⟩
theorem dX5_spell_0 : decode cX5_spell 0 = .ok (.aload_n 0, 1) := by decide +kernel
theorem dX5_spell_1 : decode cX5_spell 1 = .ok (.getfield 12, 3) := by decide +kernel
theorem dX5_spell_4 : decode cX5_spell 4 = .ok (.iconst 0, 1) := by decide +kernel
theorem dX5_spell_5 : decode cX5_spell 5 = .ok (.putfield 28, 3) := by decide +kernel
theorem dX5_spell_8 : decode cX5_spell 8 = .ok (.iconst 0, 1) := by decide +kernel
theorem dX5_spell_9 : decode cX5_spell 9 = .ok (.istore 4, 2) := by decide +kernel
theorem dX5_spell_11 : decode cX5_spell 11 = .ok (.iconst 0, 1) := by decide +kernel
theorem dX5_spell_12 : decode cX5_spell 12 = .ok (.istore 5, 2) := by decide +kernel
theorem dX5_spell_14 : decode cX5_spell 14 = .ok (.iload 5, 2) := by decide +kernel
theorem dX5_spell_16 : decode cX5_spell 16 = .ok (.iload_n 3, 1) := by decide +kernel
theorem dX5_spell_17 : decode cX5_spell 17 = .ok (.if_icmp .ge 34, 3) := by decide +kernel
theorem dX5_spell_20 : decode cX5_spell 20 = .ok (.aload_n 0, 1) := by decide +kernel
theorem dX5_spell_21 : decode cX5_spell 21 = .ok (.aload_n 1, 1) := by decide +kernel
theorem dX5_spell_22 : decode cX5_spell 22 = .ok (.iload 4, 2) := by decide +kernel
theorem dX5_spell_24 : decode cX5_spell 24 = .ok (.aload_n 2, 1) := by decide +kernel
theorem dX5_spell_25 : decode cX5_spell 25 = .ok (.getfield 32, 3) := by decide +kernel
theorem dX5_spell_28 : decode cX5_spell 28 = .ok (.iload 5, 2) := by decide +kernel
theorem dX5_spell_30 : decode cX5_spell 30 = .ok (.laload, 1) := by decide +kernel
theorem dX5_spell_31 : decode cX5_spell 31 = .ok (.l2i, 1) := by decide +kernel
theorem dX5_spell_32 : decode cX5_spell 32 = .ok (.invokevirtual 41, 3) := by decide +kernel
theorem dX5_spell_35 : decode cX5_spell 35 = .ok (.istore 4, 2) := by decide +kernel
theorem dX5_spell_37 : decode cX5_spell 37 = .ok (.iload 4, 2) := by decide +kernel
theorem dX5_spell_39 : decode cX5_spell 39 = .ok (.iconst (-1), 1) := by decide +kernel
theorem dX5_spell_40 : decode cX5_spell 40 = .ok (.if_icmp .ne 5, 3) := by decide +kernel
theorem dX5_spell_43 : decode cX5_spell 43 = .ok (.iconst 0, 1) := by decide +kernel
theorem dX5_spell_44 : decode cX5_spell 44 = .ok (.ireturn, 1) := by decide +kernel
theorem dX5_spell_45 : decode cX5_spell 45 = .ok (.iinc 5 1, 3) := by decide +kernel
theorem dX5_spell_48 : decode cX5_spell 48 = .ok (.goto (-34), 3) := by decide +kernel
theorem dX5_spell_51 : decode cX5_spell 51 = .ok (.iconst 1, 1) := by decide +kernel
theorem dX5_spell_52 : decode cX5_spell 52 = .ok (.ireturn, 1) := by decide +kernel
noncomputable def fX5_spell_s14 (rf : Nat → Nat → Nat) (a0 : Nat) (a1 : Nat) (a2 : Nat) (x3 : Int32) (τ14 : Int32 × Int32) (μ0 : o_Mem) : Option ((Nat × (Int32 × Int32)) × o_Mem) :=
  if x3 ≤ τ14.2 then (
    some ((51, (0, 0)), μ0))
  else (
    o_ck (0 ≤ (τ14.2).toInt ∧ (τ14.2).toInt < 60) <|
    o_bd (fX5_spellOne rf a0 a1 τ14.1 ((μ0.2 (rf a2 3) (τ14.2).toNatClampNeg).toInt32) μ0) fun r1 μ1 =>
    if r1 = (-1) then (
      some ((43, (0, 0)), μ1))
    else (
      some ((14, (r1, (τ14.2 + 1))), μ1)))
noncomputable def fX5_spell (rf : Nat → Nat → Nat) (a0 : Nat) (a1 : Nat) (a2 : Nat) (x3 : Int32) (μ0 : o_Mem) : Option (Int32 × o_Mem) :=
  o_seq (o_wI μ0 (rf a0 0) 0 0) fun μ1 =>
  o_bd (o_lp 14 (fX5_spell_s14 rf a0 a1 a2 x3) o_fuel (0, 0) μ1) fun ex2 μ2 =>
  if ex2.1 = 43 then (
    some (0, μ2))
  else
  if ex2.1 = 51 then (
    some (1, μ2))
  else
    none
set_option maxRecDepth 20000 in
theorem dnX5_spell_s14 {X : o_Cx} (hX : o_ok X) {d : Nat} {a0 : Nat} {a1 : Nat} {a2 : Nat} {x3 : Int32} {τ14 : Int32 × Int32} {μ0 : o_Mem} {K : (Nat × (Int32 × Int32)) → o_Mem → Prop} {Q : Option Value → o_Mem → Prop} (h0 : o_is X a0 (.inl 5)) (h1 : o_is X a1 (.inl 8)) (h2 : o_is X a2 (.inl 7)) (h : o_Post (fX5_spell_s14 (o_rf X) a0 a1 a2 x3 τ14 μ0) K) (kh : ∀ (τ14 : Int32 × Int32) (μ : o_Mem), K (14, τ14) μ → o_Ev X (d + 5) mX5_spell 14 [some (.ref (o_ad X a0)), some (.ref (o_ad X a1)), some (.ref (o_ad X a2)), some (.int x3), some (.int τ14.1), some (.int τ14.2)] [] μ Q) (k43 : ∀ (τ14 : Int32 × Int32) (μ : o_Mem), K (43, τ14) μ → o_Ev X (d + 5) mX5_spell 43 [none, none, none, none, none, none] [] μ Q) (k51 : ∀ (τ14 : Int32 × Int32) (μ : o_Mem), K (51, τ14) μ → o_Ev X (d + 5) mX5_spell 51 [none, none, none, none, none, none] [] μ Q) : o_Ev X (d + 5) mX5_spell 14 [some (.ref (o_ad X a0)), some (.ref (o_ad X a1)), some (.ref (o_ad X a2)), some (.int x3), some (.int τ14.1), some (.int τ14.2)] [] μ0 Q := by
  unfold fX5_spell_s14 at h
  refine s_iload dX5_spell_14 rfl ?_
  refine s_iload_n (i := 3) dX5_spell_16 rfl rfl ?_
  refine s_icmp_ge (tgt := 51) dX5_spell_17 rfl (fun c1 => ?_) (fun c1 => ?_)
  · have h := o_if_t c1 h
    refine s_mask [false, false, false, false, false, false] (L' := [none, none, none, none, none, none]) rfl ?_
    exact k51 (0, 0) _ (o_ret h)
  · have h := o_if_f c1 h
    refine s_aload_n (i := 0) dX5_spell_20 rfl rfl ?_
    refine s_aload_n (i := 1) dX5_spell_21 rfl rfl ?_
    refine s_iload dX5_spell_22 rfl ?_
    refine s_aload_n (i := 2) dX5_spell_24 rfl rfl ?_
    refine s_getR hX h2 flX5_32 rfl dX5_spell_25 (fun (g1 : o_is X (o_rf X a2 3) (.inr (2, 60))) => ?_)
    refine s_iload dX5_spell_28 rfl ?_
    have hc := o_ck_c h
    have h := o_ck_k h
    refine s_laldK g1 hc rfl dX5_spell_30 ?_
    refine s_l2i dX5_spell_31 ?_
    refine s_callVi (C := mX5_spellOne) (As := [.ref (o_ad X a1), .int τ14.1, .int ((μ0.2 (o_rf X a2 3) (τ14.2).toNatClampNeg).toInt32)]) (rest := []) (L0 := [some (.ref (o_ad X a0)), some (.ref (o_ad X a1)), some (.int τ14.1), some (.int ((μ0.2 (o_rf X a2 3) (τ14.2).toNatClampNeg).toInt32)), none, none, none, none]) hX h0 clX5_41 dX5_spell_32 rfl rfl (Nat.le_of_ble_eq_true rfl) (Nat.le_of_ble_eq_true rfl) (dnX5_spellOne hX h0 h1 (o_bdp h)) (fun r1 μ1 h => ?_)
    refine s_istore dX5_spell_35 (Nat.le_of_ble_eq_true rfl) rfl ?_
    refine s_iload dX5_spell_37 rfl ?_
    refine s_iconst dX5_spell_39 kI_m1 ?_
    refine s_icmp_ne (tgt := 45) dX5_spell_40 rfl (fun c1 => ?_) (fun c1 => ?_)
    · have h := o_if_f c1 h
      refine s_iinc (v := (τ14.2 + 1)) dX5_spell_45 rfl rfl (Nat.le_of_ble_eq_true rfl) rfl ?_
      refine s_goto (tgt := 14) dX5_spell_48 rfl ?_
      refine s_mask [true, true, true, true, true, true] (L' := [some (.ref (o_ad X a0)), some (.ref (o_ad X a1)), some (.ref (o_ad X a2)), some (.int x3), some (.int r1), some (.int (τ14.2 + 1))]) rfl ?_
      exact kh (r1, (τ14.2 + 1)) _ (o_ret h)
    · have h := o_if_t c1 h
      refine s_mask [false, false, false, false, false, false] (L' := [none, none, none, none, none, none]) rfl ?_
      exact k43 (0, 0) _ (o_ret h)
set_option maxRecDepth 20000 in
theorem dnX5_spell {X : o_Cx} (hX : o_ok X) {d : Nat} {a0 : Nat} {a1 : Nat} {a2 : Nat} {x3 : Int32} {μ0 : o_Mem} {q : Int32 → o_Mem → Prop} (h0 : o_is X a0 (.inl 5)) (h1 : o_is X a1 (.inl 8)) (h2 : o_is X a2 (.inl 7)) (h : o_Post (fX5_spell (o_rf X) a0 a1 a2 x3 μ0) q) : o_Ev X (d + 5) mX5_spell 0 [some (.ref (o_ad X a0)), some (.ref (o_ad X a1)), some (.ref (o_ad X a2)), some (.int x3), none, none] [] μ0 (o_QZ q) := by
  unfold fX5_spell at h
  refine s_aload_n (i := 0) dX5_spell_0 rfl rfl ?_
  refine s_getR hX h0 flX5_12 rfl dX5_spell_1 (fun (g1 : o_is X (o_rf X a0 0) (.inl 1)) => ?_)
  refine s_iconst dX5_spell_4 kI_0 ?_
  refine s_putI hX g1 fwX5_28 rfl dX5_spell_5 (o_gen h (fun μ1 h => ?_))
  refine s_iconst dX5_spell_8 kI_0 ?_
  refine s_istore dX5_spell_9 (Nat.le_of_ble_eq_true rfl) rfl ?_
  refine s_iconst dX5_spell_11 kI_0 ?_
  refine s_istore dX5_spell_12 (Nat.le_of_ble_eq_true rfl) rfl ?_
  refine s_mask [true, true, true, true, true, true] (L' := [some (.ref (o_ad X a0)), some (.ref (o_ad X a1)), some (.ref (o_ad X a2)), some (.int x3), some (.int 0), some (.int 0)]) rfl ?_
  refine o_lp_ev (fun τ14 => [some (.ref (o_ad X a0)), some (.ref (o_ad X a1)), some (.ref (o_ad X a2)), some (.int x3), some (.int τ14.1), some (.int τ14.2)]) (fun τ14 μ _K h kv ke14 => dnX5_spell_s14 hX h0 h1 h2 h kv (fun τ14 μ2 h => ?_) (fun τ14 μ2 h => ?_)) o_fuel (0, 0) μ1 (o_bdp h)
  · have h := o_if_t rfl (ke14 (43, τ14) μ2 (o_ne rfl) h)
    refine s_iconst dX5_spell_43 kI_0 ?_
    exact s_zreturn rfl (Or.inl rfl) dX5_spell_44 ⟨_, rfl, (Or.inl rfl), o_ret h⟩
  · have h := o_if_t rfl (o_if_f (o_ne rfl) (ke14 (51, τ14) μ2 (o_ne rfl) h))
    refine s_iconst dX5_spell_51 kI_1 ?_
    exact s_zreturn rfl (Or.inr rfl) dX5_spell_52 ⟨_, rfl, (Or.inr rfl), o_ret h⟩
theorem dX5_splitBy_0 : decode cX5_splitBy 0 = .ok (.aload_n 0, 1) := by decide +kernel
theorem dX5_splitBy_1 : decode cX5_splitBy 1 = .ok (.iconst 1, 1) := by decide +kernel
theorem dX5_splitBy_2 : decode cX5_splitBy 2 = .ok (.putfield 61, 3) := by decide +kernel
theorem dX5_splitBy_5 : decode cX5_splitBy 5 = .ok (.aload_n 0, 1) := by decide +kernel
theorem dX5_splitBy_6 : decode cX5_splitBy 6 = .ok (.bipush 100, 2) := by decide +kernel
theorem dX5_splitBy_8 : decode cX5_splitBy 8 = .ok (.putfield 64, 3) := by decide +kernel
theorem dX5_splitBy_11 : decode cX5_splitBy 11 = .ok (.iconst 0, 1) := by decide +kernel
theorem dX5_splitBy_12 : decode cX5_splitBy 12 = .ok (.istore 4, 2) := by decide +kernel
theorem dX5_splitBy_14 : decode cX5_splitBy 14 = .ok (.iload 4, 2) := by decide +kernel
theorem dX5_splitBy_16 : decode cX5_splitBy 16 = .ok (.iload_n 2, 1) := by decide +kernel
theorem dX5_splitBy_17 : decode cX5_splitBy 17 = .ok (.if_icmp .ge 69, 3) := by decide +kernel
theorem dX5_splitBy_20 : decode cX5_splitBy 20 = .ok (.aload_n 1, 1) := by decide +kernel
theorem dX5_splitBy_21 : decode cX5_splitBy 21 = .ok (.getfield 32, 3) := by decide +kernel
theorem dX5_splitBy_24 : decode cX5_splitBy 24 = .ok (.iconst 2, 1) := by decide +kernel
theorem dX5_splitBy_25 : decode cX5_splitBy 25 = .ok (.iload 4, 2) := by decide +kernel
theorem dX5_splitBy_27 : decode cX5_splitBy 27 = .ok (.imul, 1) := by decide +kernel
theorem dX5_splitBy_28 : decode cX5_splitBy 28 = .ok (.laload, 1) := by decide +kernel
theorem dX5_splitBy_29 : decode cX5_splitBy 29 = .ok (.l2i, 1) := by decide +kernel
theorem dX5_splitBy_30 : decode cX5_splitBy 30 = .ok (.istore 5, 2) := by decide +kernel
theorem dX5_splitBy_32 : decode cX5_splitBy 32 = .ok (.aload_n 1, 1) := by decide +kernel
theorem dX5_splitBy_33 : decode cX5_splitBy 33 = .ok (.getfield 32, 3) := by decide +kernel
theorem dX5_splitBy_36 : decode cX5_splitBy 36 = .ok (.iconst 2, 1) := by decide +kernel
theorem dX5_splitBy_37 : decode cX5_splitBy 37 = .ok (.iload 4, 2) := by decide +kernel
theorem dX5_splitBy_39 : decode cX5_splitBy 39 = .ok (.imul, 1) := by decide +kernel
theorem dX5_splitBy_40 : decode cX5_splitBy 40 = .ok (.iconst 1, 1) := by decide +kernel
theorem dX5_splitBy_41 : decode cX5_splitBy 41 = .ok (.iadd, 1) := by decide +kernel
theorem dX5_splitBy_42 : decode cX5_splitBy 42 = .ok (.laload, 1) := by decide +kernel
theorem dX5_splitBy_43 : decode cX5_splitBy 43 = .ok (.iload_n 3, 1) := by decide +kernel
theorem dX5_splitBy_44 : decode cX5_splitBy 44 = .ok (.i2l, 1) := by decide +kernel
theorem dX5_splitBy_45 : decode cX5_splitBy 45 = .ok (.lcmp, 1) := by decide +kernel
theorem dX5_splitBy_46 : decode cX5_splitBy 46 = .ok (.ifCond .ne 21, 3) := by decide +kernel
theorem dX5_splitBy_49 : decode cX5_splitBy 49 = .ok (.aload_n 0, 1) := by decide +kernel
theorem dX5_splitBy_50 : decode cX5_splitBy 50 = .ok (.aload_n 0, 1) := by decide +kernel
theorem dX5_splitBy_51 : decode cX5_splitBy 51 = .ok (.getfield 61, 3) := by decide +kernel
theorem dX5_splitBy_54 : decode cX5_splitBy 54 = .ok (.iload 5, 2) := by decide +kernel
theorem dX5_splitBy_56 : decode cX5_splitBy 56 = .ok (.iconst 1, 1) := by decide +kernel
theorem dX5_splitBy_57 : decode cX5_splitBy 57 = .ok (.iadd, 1) := by decide +kernel
theorem dX5_splitBy_58 : decode cX5_splitBy 58 = .ok (.invokestatic 67, 3) := by decide +kernel
theorem dX5_splitBy_61 : decode cX5_splitBy 61 = .ok (.putfield 61, 3) := by decide +kernel
theorem dX5_splitBy_64 : decode cX5_splitBy 64 = .ok (.goto 16, 3) := by decide +kernel
theorem dX5_splitBy_67 : decode cX5_splitBy 67 = .ok (.aload_n 0, 1) := by decide +kernel
theorem dX5_splitBy_68 : decode cX5_splitBy 68 = .ok (.aload_n 0, 1) := by decide +kernel
theorem dX5_splitBy_69 : decode cX5_splitBy 69 = .ok (.getfield 64, 3) := by decide +kernel
theorem dX5_splitBy_72 : decode cX5_splitBy 72 = .ok (.iload 5, 2) := by decide +kernel
theorem dX5_splitBy_74 : decode cX5_splitBy 74 = .ok (.invokestatic 73, 3) := by decide +kernel
theorem dX5_splitBy_77 : decode cX5_splitBy 77 = .ok (.putfield 64, 3) := by decide +kernel
theorem dX5_splitBy_80 : decode cX5_splitBy 80 = .ok (.iinc 4 1, 3) := by decide +kernel
theorem dX5_splitBy_83 : decode cX5_splitBy 83 = .ok (.goto (-69), 3) := by decide +kernel
theorem dX5_splitBy_86 : decode cX5_splitBy 86 = .ok (.return_, 1) := by decide +kernel
noncomputable def fX5_splitBy_s14 (rf : Nat → Nat → Nat) (a0 : Nat) (a1 : Nat) (x2 : Int32) (x3 : Int32) (τ14 : Int32) (μ0 : o_Mem) : Option ((Nat × (Int32)) × o_Mem) :=
  if x2 ≤ τ14 then (
    some ((86, 0), μ0))
  else (
    o_ck (0 ≤ ((2 * τ14)).toInt ∧ ((2 * τ14)).toInt < 60) <|
    o_ck (0 ≤ (((2 * τ14) + 1)).toInt ∧ (((2 * τ14) + 1)).toInt < 60) <|
    if (μ0.2 (rf a1 3) (((2 * τ14) + 1)).toNatClampNeg) = x3.toInt64 then (
      o_seq (o_wI μ0 a0 2 (if (μ0.1 a0 2) < ((μ0.2 (rf a1 3) ((2 * τ14)).toNatClampNeg).toInt32 + 1) then ((μ0.2 (rf a1 3) ((2 * τ14)).toNatClampNeg).toInt32 + 1) else (μ0.1 a0 2))) fun μ2 =>
      some ((14, (τ14 + 1)), μ2))
    else (
      o_seq (o_wI μ0 a0 3 (if (μ0.1 a0 3) > (μ0.2 (rf a1 3) ((2 * τ14)).toNatClampNeg).toInt32 then (μ0.2 (rf a1 3) ((2 * τ14)).toNatClampNeg).toInt32 else (μ0.1 a0 3))) fun μ1 =>
      some ((14, (τ14 + 1)), μ1)))
noncomputable def fX5_splitBy (rf : Nat → Nat → Nat) (a0 : Nat) (a1 : Nat) (x2 : Int32) (x3 : Int32) (μ0 : o_Mem) : Option (Unit × o_Mem) :=
  o_seq (o_wI μ0 a0 2 1) fun μ1 =>
  o_seq (o_wI μ1 a0 3 100) fun μ2 =>
  o_bd (o_lp 14 (fX5_splitBy_s14 rf a0 a1 x2 x3) o_fuel (0 : Int32) μ2) fun ex3 μ3 =>
  if ex3.1 = 86 then (
    some ((), μ3))
  else
    none
set_option maxRecDepth 20000 in
theorem dnX5_splitBy_s14 {X : o_Cx} (hX : o_ok X) {d : Nat} {a0 : Nat} {a1 : Nat} {x2 : Int32} {x3 : Int32} {τ14 : Int32} {μ0 : o_Mem} {K : (Nat × (Int32)) → o_Mem → Prop} {Q : Option Value → o_Mem → Prop} (h0 : o_is X a0 (.inl 5)) (h1 : o_is X a1 (.inl 7)) (h : o_Post (fX5_splitBy_s14 (o_rf X) a0 a1 x2 x3 τ14 μ0) K) (kh : ∀ (τ14 : Int32) (μ : o_Mem), K (14, τ14) μ → o_Ev X (d + 1) mX5_splitBy 14 [some (.ref (o_ad X a0)), some (.ref (o_ad X a1)), some (.int x2), some (.int x3), some (.int τ14), none] [] μ Q) (k86 : ∀ (τ14 : Int32) (μ : o_Mem), K (86, τ14) μ → o_Ev X (d + 1) mX5_splitBy 86 [none, none, none, none, none, none] [] μ Q) : o_Ev X (d + 1) mX5_splitBy 14 [some (.ref (o_ad X a0)), some (.ref (o_ad X a1)), some (.int x2), some (.int x3), some (.int τ14), none] [] μ0 Q := by
  unfold fX5_splitBy_s14 at h
  refine s_iload dX5_splitBy_14 rfl ?_
  refine s_iload_n (i := 2) dX5_splitBy_16 rfl rfl ?_
  refine s_icmp_ge (tgt := 86) dX5_splitBy_17 rfl (fun c1 => ?_) (fun c1 => ?_)
  · have h := o_if_t c1 h
    refine s_mask [false, false, false, false, false, false] (L' := [none, none, none, none, none, none]) rfl ?_
    exact k86 0 _ (o_ret h)
  · have h := o_if_f c1 h
    refine s_aload_n (i := 1) dX5_splitBy_20 rfl rfl ?_
    refine s_getR hX h1 flX5_32 rfl dX5_splitBy_21 (fun (g1 : o_is X (o_rf X a1 3) (.inr (2, 60))) => ?_)
    refine s_iconst dX5_splitBy_24 kI_2 ?_
    refine s_iload dX5_splitBy_25 rfl ?_
    refine s_imul dX5_splitBy_27 ?_
    have hc := o_ck_c h
    have h := o_ck_k h
    refine s_laldK g1 hc rfl dX5_splitBy_28 ?_
    refine s_l2i dX5_splitBy_29 ?_
    refine s_istore dX5_splitBy_30 (Nat.le_of_ble_eq_true rfl) rfl ?_
    refine s_aload_n (i := 1) dX5_splitBy_32 rfl rfl ?_
    refine s_getR hX h1 flX5_32 rfl dX5_splitBy_33 (fun (g2 : o_is X (o_rf X a1 3) (.inr (2, 60))) => ?_)
    refine s_iconst dX5_splitBy_36 kI_2 ?_
    refine s_iload dX5_splitBy_37 rfl ?_
    refine s_imul dX5_splitBy_39 ?_
    refine s_iconst dX5_splitBy_40 kI_1 ?_
    refine s_iadd dX5_splitBy_41 ?_
    have hc := o_ck_c h
    have h := o_ck_k h
    refine s_laldK g2 hc rfl dX5_splitBy_42 ?_
    refine s_iload_n (i := 3) dX5_splitBy_43 rfl rfl ?_
    refine s_i2l dX5_splitBy_44 ?_
    refine s_lif_ne (tgt := 67) dX5_splitBy_45 dX5_splitBy_46 rfl (fun c1 => ?_) (fun c1 => ?_)
    · have h := o_if_f c1 h
      refine s_aload_n (i := 0) dX5_splitBy_67 rfl rfl ?_
      refine s_aload_n (i := 0) dX5_splitBy_68 rfl rfl ?_
      refine s_getI h0 flX5_64 rfl dX5_splitBy_69 ?_
      refine s_iload dX5_splitBy_72 rfl ?_
      refine s_min mlX5_73 mst_min mini mco_min (Nat.le_of_ble_eq_true rfl) dX5_splitBy_74 ?_
      refine s_putI hX h0 fwX5_64 rfl dX5_splitBy_77 (o_gen h (fun μ1 h => ?_))
      refine s_iinc (v := (τ14 + 1)) dX5_splitBy_80 rfl rfl (Nat.le_of_ble_eq_true rfl) rfl ?_
      refine s_goto (tgt := 14) dX5_splitBy_83 rfl ?_
      refine s_mask [true, true, true, true, true, false] (L' := [some (.ref (o_ad X a0)), some (.ref (o_ad X a1)), some (.int x2), some (.int x3), some (.int (τ14 + 1)), none]) rfl ?_
      exact kh (τ14 + 1) _ (o_ret h)
    · have h := o_if_t c1 h
      refine s_aload_n (i := 0) dX5_splitBy_49 rfl rfl ?_
      refine s_aload_n (i := 0) dX5_splitBy_50 rfl rfl ?_
      refine s_getI h0 flX5_61 rfl dX5_splitBy_51 ?_
      refine s_iload dX5_splitBy_54 rfl ?_
      refine s_iconst dX5_splitBy_56 kI_1 ?_
      refine s_iadd dX5_splitBy_57 ?_
      refine s_max mlX5_67 mst_max mini mco_max (Nat.le_of_ble_eq_true rfl) dX5_splitBy_58 ?_
      refine s_putI hX h0 fwX5_61 rfl dX5_splitBy_61 (o_gen h (fun μ2 h => ?_))
      refine s_goto (tgt := 80) dX5_splitBy_64 rfl ?_
      refine s_iinc (v := (τ14 + 1)) dX5_splitBy_80 rfl rfl (Nat.le_of_ble_eq_true rfl) rfl ?_
      refine s_goto (tgt := 14) dX5_splitBy_83 rfl ?_
      refine s_mask [true, true, true, true, true, false] (L' := [some (.ref (o_ad X a0)), some (.ref (o_ad X a1)), some (.int x2), some (.int x3), some (.int (τ14 + 1)), none]) rfl ?_
      exact kh (τ14 + 1) _ (o_ret h)
set_option maxRecDepth 20000 in
theorem dnX5_splitBy {X : o_Cx} (hX : o_ok X) {d : Nat} {a0 : Nat} {a1 : Nat} {x2 : Int32} {x3 : Int32} {μ0 : o_Mem} {q : Unit → o_Mem → Prop} (h0 : o_is X a0 (.inl 5)) (h1 : o_is X a1 (.inl 7)) (h : o_Post (fX5_splitBy (o_rf X) a0 a1 x2 x3 μ0) q) : o_Ev X (d + 1) mX5_splitBy 0 [some (.ref (o_ad X a0)), some (.ref (o_ad X a1)), some (.int x2), some (.int x3), none, none] [] μ0 (o_QU q) := by
  unfold fX5_splitBy at h
  refine s_aload_n (i := 0) dX5_splitBy_0 rfl rfl ?_
  refine s_iconst dX5_splitBy_1 kI_1 ?_
  refine s_putI hX h0 fwX5_61 rfl dX5_splitBy_2 (o_gen h (fun μ1 h => ?_))
  refine s_aload_n (i := 0) dX5_splitBy_5 rfl rfl ?_
  refine s_bipush dX5_splitBy_6 kB_100 ?_
  refine s_putI hX h0 fwX5_64 rfl dX5_splitBy_8 (o_gen h (fun μ2 h => ?_))
  refine s_iconst dX5_splitBy_11 kI_0 ?_
  refine s_istore dX5_splitBy_12 (Nat.le_of_ble_eq_true rfl) rfl ?_
  refine s_mask [true, true, true, true, true, false] (L' := [some (.ref (o_ad X a0)), some (.ref (o_ad X a1)), some (.int x2), some (.int x3), some (.int 0), none]) rfl ?_
  refine o_lp_ev (fun τ14 => [some (.ref (o_ad X a0)), some (.ref (o_ad X a1)), some (.int x2), some (.int x3), some (.int τ14), none]) (fun τ14 μ _K h kv ke14 => dnX5_splitBy_s14 hX h0 h1 h kv (fun τ14 μ3 h => ?_)) o_fuel 0 μ2 (o_bdp h)
  · have h := o_if_t rfl (ke14 (86, τ14) μ3 (o_ne rfl) h)
    exact s_return rfl dX5_splitBy_86 ⟨rfl, o_ret h⟩
