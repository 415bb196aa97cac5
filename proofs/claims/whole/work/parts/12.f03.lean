theorem dX4_hasSpace_0 : decode cX4_hasSpace 0 = .ok (.aload_n 0, 1) := by decide +kernel
theorem dX4_hasSpace_1 : decode cX4_hasSpace 1 = .ok (.getfield 22, 3) := by decide +kernel
theorem dX4_hasSpace_4 : decode cX4_hasSpace 4 = .ok (.bipush 20, 2) := by decide +kernel
theorem dX4_hasSpace_6 : decode cX4_hasSpace 6 = .ok (.iadd, 1) := by decide +kernel
theorem dX4_hasSpace_7 : decode cX4_hasSpace 7 = .ok (.sipush 900, 3) := by decide +kernel
theorem dX4_hasSpace_10 : decode cX4_hasSpace 10 = .ok (.if_icmp .gt 7, 3) := by decide +kernel
theorem dX4_hasSpace_13 : decode cX4_hasSpace 13 = .ok (.iconst 1, 1) := by decide +kernel
theorem dX4_hasSpace_14 : decode cX4_hasSpace 14 = .ok (.goto 4, 3) := by decide +kernel
theorem dX4_hasSpace_17 : decode cX4_hasSpace 17 = .ok (.iconst 0, 1) := by decide +kernel
theorem dX4_hasSpace_18 : decode cX4_hasSpace 18 = .ok (.ireturn, 1) := by decide +kernel
noncomputable def fX4_hasSpace (rf : Nat → Nat → Nat) (a0 : Nat) (μ0 : o_Mem) : Option (Int32 × o_Mem) :=
  if 900 < ((μ0.1 a0 1) + 20) then (
    some (0, μ0))
  else (
    some (1, μ0))
set_option maxRecDepth 20000 in
theorem dnX4_hasSpace {X : o_Cx} (hX : o_ok X) {d : Nat} {a0 : Nat} {μ0 : o_Mem} {q : Int32 → o_Mem → Prop} (h0 : o_is X a0 (.inl 4)) (h : o_Post (fX4_hasSpace (o_rf X) a0 μ0) q) : o_Ev X (d + 0) mX4_hasSpace 0 [some (.ref (o_ad X a0))] [] μ0 (o_QZ q) := by
  unfold fX4_hasSpace at h
  refine s_aload_n (i := 0) dX4_hasSpace_0 rfl rfl ?_
  refine s_getI h0 flX4_22 rfl dX4_hasSpace_1 ?_
  refine s_bipush dX4_hasSpace_4 kB_20 ?_
  refine s_iadd dX4_hasSpace_6 ?_
  refine s_sipush dX4_hasSpace_7 kS_900 ?_
  refine s_icmp_gt (tgt := 17) dX4_hasSpace_10 rfl (fun c1 => ?_) (fun c1 => ?_)
  · have h := o_if_t c1 h
    refine s_iconst dX4_hasSpace_17 kI_0 ?_
    exact s_zreturn rfl (Or.inl rfl) dX4_hasSpace_18 ⟨_, rfl, (Or.inl rfl), o_ret h⟩
  · have h := o_if_f c1 h
    refine s_iconst dX4_hasSpace_13 kI_1 ?_
    refine s_goto (tgt := 18) dX4_hasSpace_14 rfl ?_
    exact s_zreturn rfl (Or.inr rfl) dX4_hasSpace_18 ⟨_, rfl, (Or.inr rfl), o_ret h⟩
theorem dX4_append_0 : decode cX4_append 0 = .ok (.bipush 24, 2) := by decide +kernel
theorem dX4_append_2 : decode cX4_append 2 = .ok (.istore_n 2, 1) := by decide +kernel
theorem dX4_append_3 : decode cX4_append 3 = .ok (.iload_n 2, 1) := by decide +kernel
theorem dX4_append_4 : decode cX4_append 4 = .ok (.ifCond .lt 42, 3) := by decide +kernel
theorem dX4_append_7 : decode cX4_append 7 = .ok (.aload_n 0, 1) := by decide +kernel
theorem dX4_append_8 : decode cX4_append 8 = .ok (.getfield 22, 3) := by decide +kernel
theorem dX4_append_11 : decode cX4_append 11 = .ok (.sipush 900, 3) := by decide +kernel
theorem dX4_append_14 : decode cX4_append 14 = .ok (.if_icmp .ge 26, 3) := by decide +kernel
theorem dX4_append_17 : decode cX4_append 17 = .ok (.aload_n 0, 1) := by decide +kernel
theorem dX4_append_18 : decode cX4_append 18 = .ok (.getfield 9, 3) := by decide +kernel
theorem dX4_append_21 : decode cX4_append 21 = .ok (.aload_n 0, 1) := by decide +kernel
theorem dX4_append_22 : decode cX4_append 22 = .ok (.getfield 22, 3) := by decide +kernel
theorem dX4_append_25 : decode cX4_append 25 = .ok (.iload_n 1, 1) := by decide +kernel
theorem dX4_append_26 : decode cX4_append 26 = .ok (.iload_n 2, 1) := by decide +kernel
theorem dX4_append_27 : decode cX4_append 27 = .ok (.ishr, 1) := by decide +kernel
theorem dX4_append_28 : decode cX4_append 28 = .ok (.i2b, 1) := by decide +kernel
theorem dX4_append_29 : decode cX4_append 29 = .ok (.bastore, 1) := by decide +kernel
theorem dX4_append_30 : decode cX4_append 30 = .ok (.aload_n 0, 1) := by decide +kernel
theorem dX4_append_31 : decode cX4_append 31 = .ok (.dup, 1) := by decide +kernel
theorem dX4_append_32 : decode cX4_append 32 = .ok (.getfield 22, 3) := by decide +kernel
theorem dX4_append_35 : decode cX4_append 35 = .ok (.iconst 1, 1) := by decide +kernel
theorem dX4_append_36 : decode cX4_append 36 = .ok (.iadd, 1) := by decide +kernel
theorem dX4_append_37 : decode cX4_append 37 = .ok (.putfield 22, 3) := by decide +kernel
theorem dX4_append_40 : decode cX4_append 40 = .ok (.iinc 2 (-8), 3) := by decide +kernel
theorem dX4_append_43 : decode cX4_append 43 = .ok (.goto (-40), 3) := by decide +kernel
theorem dX4_append_46 : decode cX4_append 46 = .ok (.return_, 1) := by decide +kernel
noncomputable def fX4_append_s3 (rf : Nat → Nat → Nat) (a0 : Nat) (x1 : Int32) (τ3 : Int32) (μ0 : o_Mem) : Option ((Nat × (Int32)) × o_Mem) :=
  if τ3 < 0 then (
    some ((46, 0), μ0))
  else (
    if 900 ≤ (μ0.1 a0 1) then (
      some ((3, (τ3 + (-8))), μ0))
    else (
      o_ck (0 ≤ ((μ0.1 a0 1)).toInt ∧ ((μ0.1 a0 1)).toInt < 900) <|
      o_seq (o_wI μ0 (rf a0 0) (((μ0.1 a0 1)).toNatClampNeg) (((x1 >>> (τ3 &&& 31)).toInt8.toInt32).toInt8.toInt32)) fun μ1 =>
      o_seq (o_wI μ1 a0 1 ((μ1.1 a0 1) + 1)) fun μ2 =>
      some ((3, (τ3 + (-8))), μ2)))
noncomputable def fX4_append (rf : Nat → Nat → Nat) (a0 : Nat) (x1 : Int32) (μ0 : o_Mem) : Option (Unit × o_Mem) :=
  o_bd (o_lp 3 (fX4_append_s3 rf a0 x1) o_fuel (24 : Int32) μ0) fun ex1 μ1 =>
  if ex1.1 = 46 then (
    some ((), μ1))
  else
    none
set_option maxRecDepth 20000 in
theorem dnX4_append_s3 {X : o_Cx} (hX : o_ok X) {d : Nat} {a0 : Nat} {x1 : Int32} {τ3 : Int32} {μ0 : o_Mem} {K : (Nat × (Int32)) → o_Mem → Prop} {Q : Option Value → o_Mem → Prop} (h0 : o_is X a0 (.inl 4)) (h : o_Post (fX4_append_s3 (o_rf X) a0 x1 τ3 μ0) K) (kh : ∀ (τ3 : Int32) (μ : o_Mem), K (3, τ3) μ → o_Ev X (d + 0) mX4_append 3 [some (.ref (o_ad X a0)), some (.int x1), some (.int τ3)] [] μ Q) (k46 : ∀ (τ3 : Int32) (μ : o_Mem), K (46, τ3) μ → o_Ev X (d + 0) mX4_append 46 [none, none, none] [] μ Q) : o_Ev X (d + 0) mX4_append 3 [some (.ref (o_ad X a0)), some (.int x1), some (.int τ3)] [] μ0 Q := by
  unfold fX4_append_s3 at h
  refine s_iload_n (i := 2) dX4_append_3 rfl rfl ?_
  refine s_if_lt (tgt := 46) dX4_append_4 rfl (fun c1 => ?_) (fun c1 => ?_)
  · have h := o_if_t c1 h
    refine s_mask [false, false, false] (L' := [none, none, none]) rfl ?_
    exact k46 0 _ (o_ret h)
  · have h := o_if_f c1 h
    refine s_aload_n (i := 0) dX4_append_7 rfl rfl ?_
    refine s_getI h0 flX4_22 rfl dX4_append_8 ?_
    refine s_sipush dX4_append_11 kS_900 ?_
    refine s_icmp_ge (tgt := 40) dX4_append_14 rfl (fun c1 => ?_) (fun c1 => ?_)
    · have h := o_if_t c1 h
      refine s_iinc (v := (τ3 + (-8))) dX4_append_40 rfl rfl (Nat.le_of_ble_eq_true rfl) rfl ?_
      refine s_goto (tgt := 3) dX4_append_43 rfl ?_
      refine s_mask [true, true, true] (L' := [some (.ref (o_ad X a0)), some (.int x1), some (.int (τ3 + (-8)))]) rfl ?_
      exact kh (τ3 + (-8)) _ (o_ret h)
    · have h := o_if_f c1 h
      refine s_aload_n (i := 0) dX4_append_17 rfl rfl ?_
      refine s_getR hX h0 flX4_9 rfl dX4_append_18 (fun (g1 : o_is X (o_rf X a0 0) (.inr (1, 900))) => ?_)
      refine s_aload_n (i := 0) dX4_append_21 rfl rfl ?_
      refine s_getI h0 flX4_22 rfl dX4_append_22 ?_
      refine s_iload_n (i := 1) dX4_append_25 rfl rfl ?_
      refine s_iload_n (i := 2) dX4_append_26 rfl rfl ?_
      refine s_ishr dX4_append_27 ?_
      refine s_i2b dX4_append_28 ?_
      have hc := o_ck_c h
      have h := o_ck_k h
      refine s_bastK hX g1 hc rfl dX4_append_29 (o_gen h (fun μ1 h => ?_))
      refine s_aload_n (i := 0) dX4_append_30 rfl rfl ?_
      refine s_dup dX4_append_31 rfl ?_
      refine s_getI h0 flX4_22 rfl dX4_append_32 ?_
      refine s_iconst dX4_append_35 kI_1 ?_
      refine s_iadd dX4_append_36 ?_
      refine s_putI hX h0 fwX4_22 rfl dX4_append_37 (o_gen h (fun μ2 h => ?_))
      refine s_iinc (v := (τ3 + (-8))) dX4_append_40 rfl rfl (Nat.le_of_ble_eq_true rfl) rfl ?_
      refine s_goto (tgt := 3) dX4_append_43 rfl ?_
      refine s_mask [true, true, true] (L' := [some (.ref (o_ad X a0)), some (.int x1), some (.int (τ3 + (-8)))]) rfl ?_
      exact kh (τ3 + (-8)) _ (o_ret h)
set_option maxRecDepth 20000 in
theorem dnX4_append {X : o_Cx} (hX : o_ok X) {d : Nat} {a0 : Nat} {x1 : Int32} {μ0 : o_Mem} {q : Unit → o_Mem → Prop} (h0 : o_is X a0 (.inl 4)) (h : o_Post (fX4_append (o_rf X) a0 x1 μ0) q) : o_Ev X (d + 0) mX4_append 0 [some (.ref (o_ad X a0)), some (.int x1), none] [] μ0 (o_QU q) := by
  unfold fX4_append at h
  refine s_bipush dX4_append_0 kB_24 ?_
  refine s_istore_n (i := 2) dX4_append_2 rfl (Nat.le_of_ble_eq_true rfl) rfl ?_
  refine s_mask [true, true, true] (L' := [some (.ref (o_ad X a0)), some (.int x1), some (.int 24)]) rfl ?_
  refine o_lp_ev (fun τ3 => [some (.ref (o_ad X a0)), some (.int x1), some (.int τ3)]) (fun τ3 μ _K h kv ke3 => dnX4_append_s3 hX h0 h kv (fun τ3 μ1 h => ?_)) o_fuel 24 μ0 (o_bdp h)
  · have h := o_if_t rfl (ke3 (46, τ3) μ1 (o_ne rfl) h)
    exact s_return rfl dX4_append_46 ⟨rfl, o_ret h⟩
theorem dX4_isSign_0 : decode cX4_isSign 0 = .ok (.iload_n 0, 1) := by decide +kernel
theorem dX4_isSign_1 : decode cX4_isSign 1 = .ok (.bipush 59, 2) := by decide +kernel
theorem dX4_isSign_3 : decode cX4_isSign 3 = .ok (.if_icmp .eq 21, 3) := by decide +kernel
theorem dX4_isSign_6 : decode cX4_isSign 6 = .ok (.iload_n 0, 1) := by decide +kernel
theorem dX4_isSign_7 : decode cX4_isSign 7 = .ok (.bipush 60, 2) := by decide +kernel
theorem dX4_isSign_9 : decode cX4_isSign 9 = .ok (.if_icmp .eq 15, 3) := by decide +kernel
theorem dX4_isSign_12 : decode cX4_isSign 12 = .ok (.iload_n 0, 1) := by decide +kernel
theorem dX4_isSign_13 : decode cX4_isSign 13 = .ok (.bipush 62, 2) := by decide +kernel
theorem dX4_isSign_15 : decode cX4_isSign 15 = .ok (.if_icmp .eq 9, 3) := by decide +kernel
theorem dX4_isSign_18 : decode cX4_isSign 18 = .ok (.iload_n 0, 1) := by decide +kernel
theorem dX4_isSign_19 : decode cX4_isSign 19 = .ok (.bipush 61, 2) := by decide +kernel
theorem dX4_isSign_21 : decode cX4_isSign 21 = .ok (.if_icmp .ne 7, 3) := by decide +kernel
theorem dX4_isSign_24 : decode cX4_isSign 24 = .ok (.iconst 1, 1) := by decide +kernel
theorem dX4_isSign_25 : decode cX4_isSign 25 = .ok (.goto 4, 3) := by decide +kernel
theorem dX4_isSign_28 : decode cX4_isSign 28 = .ok (.iconst 0, 1) := by decide +kernel
theorem dX4_isSign_29 : decode cX4_isSign 29 = .ok (.ireturn, 1) := by decide +kernel
noncomputable def fX4_isSign (rf : Nat → Nat → Nat) (x0 : Int32) (μ0 : o_Mem) : Option (Int32 × o_Mem) :=
  if x0 = 59 then (
    some (1, μ0))
  else (
    if x0 = 60 then (
      some (1, μ0))
    else (
      if x0 = 62 then (
        some (1, μ0))
      else (
        if x0 = 61 then (
          some (1, μ0))
        else (
          some (0, μ0)))))
set_option maxRecDepth 20000 in
theorem dnX4_isSign {X : o_Cx} (hX : o_ok X) {d : Nat} {x0 : Int32} {μ0 : o_Mem} {q : Int32 → o_Mem → Prop}  (h : o_Post (fX4_isSign (o_rf X) x0 μ0) q) : o_Ev X (d + 0) mX4_isSign 0 [some (.int x0)] [] μ0 (o_QZ q) := by
  unfold fX4_isSign at h
  refine s_iload_n (i := 0) dX4_isSign_0 rfl rfl ?_
  refine s_bipush dX4_isSign_1 kB_59 ?_
  refine s_icmp_eq (tgt := 24) dX4_isSign_3 rfl (fun c1 => ?_) (fun c1 => ?_)
  · have h := o_if_t c1 h
    refine s_iconst dX4_isSign_24 kI_1 ?_
    refine s_goto (tgt := 29) dX4_isSign_25 rfl ?_
    exact s_zreturn rfl (Or.inr rfl) dX4_isSign_29 ⟨_, rfl, (Or.inr rfl), o_ret h⟩
  · have h := o_if_f c1 h
    refine s_iload_n (i := 0) dX4_isSign_6 rfl rfl ?_
    refine s_bipush dX4_isSign_7 kB_60 ?_
    refine s_icmp_eq (tgt := 24) dX4_isSign_9 rfl (fun c1 => ?_) (fun c1 => ?_)
    · have h := o_if_t c1 h
      refine s_iconst dX4_isSign_24 kI_1 ?_
      refine s_goto (tgt := 29) dX4_isSign_25 rfl ?_
      exact s_zreturn rfl (Or.inr rfl) dX4_isSign_29 ⟨_, rfl, (Or.inr rfl), o_ret h⟩
    · have h := o_if_f c1 h
      refine s_iload_n (i := 0) dX4_isSign_12 rfl rfl ?_
      refine s_bipush dX4_isSign_13 kB_62 ?_
      refine s_icmp_eq (tgt := 24) dX4_isSign_15 rfl (fun c1 => ?_) (fun c1 => ?_)
      · have h := o_if_t c1 h
        refine s_iconst dX4_isSign_24 kI_1 ?_
        refine s_goto (tgt := 29) dX4_isSign_25 rfl ?_
        exact s_zreturn rfl (Or.inr rfl) dX4_isSign_29 ⟨_, rfl, (Or.inr rfl), o_ret h⟩
      · have h := o_if_f c1 h
        refine s_iload_n (i := 0) dX4_isSign_18 rfl rfl ?_
        refine s_bipush dX4_isSign_19 kB_61 ?_
        refine s_icmp_ne (tgt := 28) dX4_isSign_21 rfl (fun c1 => ?_) (fun c1 => ?_)
        · have h := o_if_f c1 h
          refine s_iconst dX4_isSign_28 kI_0 ?_
          exact s_zreturn rfl (Or.inl rfl) dX4_isSign_29 ⟨_, rfl, (Or.inl rfl), o_ret h⟩
        · have h := o_if_t c1 h
          refine s_iconst dX4_isSign_24 kI_1 ?_
          refine s_goto (tgt := 29) dX4_isSign_25 rfl ?_
          exact s_zreturn rfl (Or.inr rfl) dX4_isSign_29 ⟨_, rfl, (Or.inr rfl), o_ret h⟩
theorem dX4_readNumber_0 : decode cX4_readNumber 0 = .ok (.aload_n 0, 1) := by decide +kernel
theorem dX4_readNumber_1 : decode cX4_readNumber 1 = .ok (.iconst 2, 1) := by decide +kernel
theorem dX4_readNumber_2 : decode cX4_readNumber 2 = .ok (.putfield 46, 3) := by decide +kernel
theorem dX4_readNumber_5 : decode cX4_readNumber 5 = .ok (.aload_n 0, 1) := by decide +kernel
theorem dX4_readNumber_6 : decode cX4_readNumber 6 = .ok (.iconst 0, 1) := by decide +kernel
theorem dX4_readNumber_7 : decode cX4_readNumber 7 = .ok (.putfield 81, 3) := by decide +kernel
theorem dX4_readNumber_10 : decode cX4_readNumber 10 = .ok (.aload_n 0, 1) := by decide +kernel
theorem dX4_readNumber_11 : decode cX4_readNumber 11 = .ok (.getfield 34, 3) := by decide +kernel
theorem dX4_readNumber_14 : decode cX4_readNumber 14 = .ok (.aload_n 0, 1) := by decide +kernel
theorem dX4_readNumber_15 : decode cX4_readNumber 15 = .ok (.getfield 31, 3) := by decide +kernel
theorem dX4_readNumber_18 : decode cX4_readNumber 18 = .ok (.if_icmp .ge 89, 3) := by decide +kernel
theorem dX4_readNumber_21 : decode cX4_readNumber 21 = .ok (.aload_n 0, 1) := by decide +kernel
theorem dX4_readNumber_22 : decode cX4_readNumber 22 = .ok (.getfield 9, 3) := by decide +kernel
theorem dX4_readNumber_25 : decode cX4_readNumber 25 = .ok (.aload_n 0, 1) := by decide +kernel
theorem dX4_readNumber_26 : decode cX4_readNumber 26 = .ok (.getfield 34, 3) := by decide +kernel
theorem dX4_readNumber_29 : decode cX4_readNumber 29 = .ok (.baload, 1) := by decide +kernel
theorem dX4_readNumber_30 : decode cX4_readNumber 30 = .ok (.bipush 48, 2) := by decide +kernel
theorem dX4_readNumber_32 : decode cX4_readNumber 32 = .ok (.if_icmp .lt 75, 3) := by decide +kernel
theorem dX4_readNumber_35 : decode cX4_readNumber 35 = .ok (.aload_n 0, 1) := by decide +kernel
theorem dX4_readNumber_36 : decode cX4_readNumber 36 = .ok (.getfield 9, 3) := by decide +kernel
theorem dX4_readNumber_39 : decode cX4_readNumber 39 = .ok (.aload_n 0, 1) := by decide +kernel
theorem dX4_readNumber_40 : decode cX4_readNumber 40 = .ok (.getfield 34, 3) := by decide +kernel
theorem dX4_readNumber_43 : decode cX4_readNumber 43 = .ok (.baload, 1) := by decide +kernel
theorem dX4_readNumber_44 : decode cX4_readNumber 44 = .ok (.bipush 57, 2) := by decide +kernel
theorem dX4_readNumber_46 : decode cX4_readNumber 46 = .ok (.if_icmp .gt 61, 3) := by decide +kernel
theorem dX4_readNumber_49 : decode cX4_readNumber 49 = .ok (.aload_n 0, 1) := by decide +kernel
theorem dX4_readNumber_50 : decode cX4_readNumber 50 = .ok (.getfield 34, 3) := by decide +kernel
theorem dX4_readNumber_53 : decode cX4_readNumber 53 = .ok (.aload_n 0, 1) := by decide +kernel
theorem dX4_readNumber_54 : decode cX4_readNumber 54 = .ok (.getfield 40, 3) := by decide +kernel
theorem dX4_readNumber_57 : decode cX4_readNumber 57 = .ok (.isub, 1) := by decide +kernel
theorem dX4_readNumber_58 : decode cX4_readNumber 58 = .ok (.iconst 4, 1) := by decide +kernel
theorem dX4_readNumber_59 : decode cX4_readNumber 59 = .ok (.if_icmp .ge 30, 3) := by decide +kernel
theorem dX4_readNumber_62 : decode cX4_readNumber 62 = .ok (.aload_n 0, 1) := by decide +kernel
theorem dX4_readNumber_63 : decode cX4_readNumber 63 = .ok (.aload_n 0, 1) := by decide +kernel
theorem dX4_readNumber_64 : decode cX4_readNumber 64 = .ok (.getfield 81, 3) := by decide +kernel
theorem dX4_readNumber_67 : decode cX4_readNumber 67 = .ok (.bipush 10, 2) := by decide +kernel
theorem dX4_readNumber_69 : decode cX4_readNumber 69 = .ok (.imul, 1) := by decide +kernel
theorem dX4_readNumber_70 : decode cX4_readNumber 70 = .ok (.aload_n 0, 1) := by decide +kernel
theorem dX4_readNumber_71 : decode cX4_readNumber 71 = .ok (.getfield 9, 3) := by decide +kernel
theorem dX4_readNumber_74 : decode cX4_readNumber 74 = .ok (.aload_n 0, 1) := by decide +kernel
theorem dX4_readNumber_75 : decode cX4_readNumber 75 = .ok (.getfield 34, 3) := by decide +kernel
theorem dX4_readNumber_78 : decode cX4_readNumber 78 = .ok (.baload, 1) := by decide +kernel
theorem dX4_readNumber_79 : decode cX4_readNumber 79 = .ok (.bipush 48, 2) := by decide +kernel
theorem dX4_readNumber_81 : decode cX4_readNumber 81 = .ok (.isub, 1) := by decide +kernel
theorem dX4_readNumber_82 : decode cX4_readNumber 82 = .ok (.iadd, 1) := by decide +kernel
theorem dX4_readNumber_83 : decode cX4_readNumber 83 = .ok (.putfield 81, 3) := by decide +kernel
theorem dX4_readNumber_86 : decode cX4_readNumber 86 = .ok (.goto 8, 3) := by decide +kernel
theorem dX4_readNumber_89 : decode cX4_readNumber 89 = .ok (.aload_n 0, 1) := by decide +kernel
theorem dX4_readNumber_90 : decode cX4_readNumber 90 = .ok (.iconst 4, 1) := by decide +kernel
theorem dX4_readNumber_91 : decode cX4_readNumber 91 = .ok (.putfield 46, 3) := by decide +kernel
theorem dX4_readNumber_94 : decode cX4_readNumber 94 = .ok (.aload_n 0, 1) := by decide +kernel
theorem dX4_readNumber_95 : decode cX4_readNumber 95 = .ok (.dup, 1) := by decide +kernel
theorem dX4_readNumber_96 : decode cX4_readNumber 96 = .ok (.getfield 34, 3) := by decide +kernel
theorem dX4_readNumber_99 : decode cX4_readNumber 99 = .ok (.iconst 1, 1) := by decide +kernel
theorem dX4_readNumber_100 : decode cX4_readNumber 100 = .ok (.iadd, 1) := by decide +kernel
theorem dX4_readNumber_101 : decode cX4_readNumber 101 = .ok (.putfield 34, 3) := by decide +kernel
theorem dX4_readNumber_104 : decode cX4_readNumber 104 = .ok (.goto (-94), 3) := by decide +kernel
theorem dX4_readNumber_107 : decode cX4_readNumber 107 = .ok (.return_, 1) := by decide +kernel
noncomputable def fX4_readNumber_j94 (rf : Nat → Nat → Nat) (a0 : Nat) (μ0 : o_Mem) : Option ((Nat × (Unit)) × o_Mem) :=
  o_seq (o_wI μ0 a0 5 ((μ0.1 a0 5) + 1)) fun μ1 =>
  some ((10, ()), μ1)
noncomputable def fX4_readNumber_s10 (rf : Nat → Nat → Nat) (a0 : Nat) (τ10 : Unit) (μ0 : o_Mem) : Option ((Nat × (Unit)) × o_Mem) :=
  if (μ0.1 a0 4) ≤ (μ0.1 a0 5) then (
    some ((107, ()), μ0))
  else (
    o_ck (0 ≤ ((μ0.1 a0 5)).toInt ∧ ((μ0.1 a0 5)).toInt < 900) <|
    if (μ0.1 (rf a0 0) ((μ0.1 a0 5)).toNatClampNeg) < 48 then (
      some ((107, ()), μ0))
    else (
      o_ck (0 ≤ ((μ0.1 a0 5)).toInt ∧ ((μ0.1 a0 5)).toInt < 900) <|
      if 57 < (μ0.1 (rf a0 0) ((μ0.1 a0 5)).toNatClampNeg) then (
        some ((107, ()), μ0))
      else (
        if 4 ≤ ((μ0.1 a0 5) - (μ0.1 a0 6)) then (
          o_seq (o_wI μ0 a0 7 4) fun μ1 =>
          fX4_readNumber_j94 rf a0 μ1)
        else (
          o_ck (0 ≤ ((μ0.1 a0 5)).toInt ∧ ((μ0.1 a0 5)).toInt < 900) <|
          o_seq (o_wI μ0 a0 10 (((μ0.1 a0 10) * 10) + ((μ0.1 (rf a0 0) ((μ0.1 a0 5)).toNatClampNeg) - 48))) fun μ2 =>
          fX4_readNumber_j94 rf a0 μ2))))
noncomputable def fX4_readNumber (rf : Nat → Nat → Nat) (a0 : Nat) (μ0 : o_Mem) : Option (Unit × o_Mem) :=
  o_seq (o_wI μ0 a0 7 2) fun μ1 =>
  o_seq (o_wI μ1 a0 10 0) fun μ2 =>
  o_bd (o_lp 10 (fX4_readNumber_s10 rf a0) o_fuel () μ2) fun ex3 μ3 =>
  if ex3.1 = 107 then (
    some ((), μ3))
  else
    none
set_option maxRecDepth 20000 in
theorem dnX4_readNumber_j94 {X : o_Cx} (hX : o_ok X) {d : Nat} {a0 : Nat} {μ0 : o_Mem} {K : (Nat × (Unit)) → o_Mem → Prop} {Q : Option Value → o_Mem → Prop} (h0 : o_is X a0 (.inl 4)) (h : o_Post (fX4_readNumber_j94 (o_rf X) a0 μ0) K) (kh : ∀ (τ10 : Unit) (μ : o_Mem), K (10, τ10) μ → o_Ev X (d + 0) mX4_readNumber 10 [some (.ref (o_ad X a0))] [] μ Q) (k107 : ∀ (τ10 : Unit) (μ : o_Mem), K (107, τ10) μ → o_Ev X (d + 0) mX4_readNumber 107 [none] [] μ Q) : o_Ev X (d + 0) mX4_readNumber 94 [some (.ref (o_ad X a0))] [] μ0 Q := by
  unfold fX4_readNumber_j94 at h
  refine s_aload_n (i := 0) dX4_readNumber_94 rfl rfl ?_
  refine s_dup dX4_readNumber_95 rfl ?_
  refine s_getI h0 flX4_34 rfl dX4_readNumber_96 ?_
  refine s_iconst dX4_readNumber_99 kI_1 ?_
  refine s_iadd dX4_readNumber_100 ?_
  refine s_putI hX h0 fwX4_34 rfl dX4_readNumber_101 (o_gen h (fun μ1 h => ?_))
  refine s_goto (tgt := 10) dX4_readNumber_104 rfl ?_
  refine s_mask [true] (L' := [some (.ref (o_ad X a0))]) rfl ?_
  exact kh () _ (o_ret h)
set_option maxRecDepth 20000 in
theorem dnX4_readNumber_s10 {X : o_Cx} (hX : o_ok X) {d : Nat} {a0 : Nat} {τ10 : Unit} {μ0 : o_Mem} {K : (Nat × (Unit)) → o_Mem → Prop} {Q : Option Value → o_Mem → Prop} (h0 : o_is X a0 (.inl 4)) (h : o_Post (fX4_readNumber_s10 (o_rf X) a0 τ10 μ0) K) (kh : ∀ (τ10 : Unit) (μ : o_Mem), K (10, τ10) μ → o_Ev X (d + 0) mX4_readNumber 10 [some (.ref (o_ad X a0))] [] μ Q) (k107 : ∀ (τ10 : Unit) (μ : o_Mem), K (107, τ10) μ → o_Ev X (d + 0) mX4_readNumber 107 [none] [] μ Q) : o_Ev X (d + 0) mX4_readNumber 10 [some (.ref (o_ad X a0))] [] μ0 Q := by
  unfold fX4_readNumber_s10 at h
  refine s_aload_n (i := 0) dX4_readNumber_10 rfl rfl ?_
  refine s_getI h0 flX4_34 rfl dX4_readNumber_11 ?_
  refine s_aload_n (i := 0) dX4_readNumber_14 rfl rfl ?_
  refine s_getI h0 flX4_31 rfl dX4_readNumber_15 ?_
  refine s_icmp_ge (tgt := 107) dX4_readNumber_18 rfl (fun c1 => ?_) (fun c1 => ?_)
  · have h := o_if_t c1 h
    refine s_mask [false] (L' := [none]) rfl ?_
    exact k107 () _ (o_ret h)
  · have h := o_if_f c1 h
    refine s_aload_n (i := 0) dX4_readNumber_21 rfl rfl ?_
    refine s_getR hX h0 flX4_9 rfl dX4_readNumber_22 (fun (g1 : o_is X (o_rf X a0 0) (.inr (1, 900))) => ?_)
    refine s_aload_n (i := 0) dX4_readNumber_25 rfl rfl ?_
    refine s_getI h0 flX4_34 rfl dX4_readNumber_26 ?_
    have hc := o_ck_c h
    have h := o_ck_k h
    refine s_baldK g1 hc rfl dX4_readNumber_29 ?_
    refine s_bipush dX4_readNumber_30 kB_48 ?_
    refine s_icmp_lt (tgt := 107) dX4_readNumber_32 rfl (fun c1 => ?_) (fun c1 => ?_)
    · have h := o_if_t c1 h
      refine s_mask [false] (L' := [none]) rfl ?_
      exact k107 () _ (o_ret h)
    · have h := o_if_f c1 h
      refine s_aload_n (i := 0) dX4_readNumber_35 rfl rfl ?_
      refine s_getR hX h0 flX4_9 rfl dX4_readNumber_36 (fun (g2 : o_is X (o_rf X a0 0) (.inr (1, 900))) => ?_)
      refine s_aload_n (i := 0) dX4_readNumber_39 rfl rfl ?_
      refine s_getI h0 flX4_34 rfl dX4_readNumber_40 ?_
      have hc := o_ck_c h
      have h := o_ck_k h
      refine s_baldK g2 hc rfl dX4_readNumber_43 ?_
      refine s_bipush dX4_readNumber_44 kB_57 ?_
      refine s_icmp_gt (tgt := 107) dX4_readNumber_46 rfl (fun c1 => ?_) (fun c1 => ?_)
      · have h := o_if_t c1 h
        refine s_mask [false] (L' := [none]) rfl ?_
        exact k107 () _ (o_ret h)
      · have h := o_if_f c1 h
        refine s_aload_n (i := 0) dX4_readNumber_49 rfl rfl ?_
        refine s_getI h0 flX4_34 rfl dX4_readNumber_50 ?_
        refine s_aload_n (i := 0) dX4_readNumber_53 rfl rfl ?_
        refine s_getI h0 flX4_40 rfl dX4_readNumber_54 ?_
        refine s_isub dX4_readNumber_57 ?_
        refine s_iconst dX4_readNumber_58 kI_4 ?_
        refine s_icmp_ge (tgt := 89) dX4_readNumber_59 rfl (fun c1 => ?_) (fun c1 => ?_)
        · have h := o_if_t c1 h
          refine s_aload_n (i := 0) dX4_readNumber_89 rfl rfl ?_
          refine s_iconst dX4_readNumber_90 kI_4 ?_
          refine s_putI hX h0 fwX4_46 rfl dX4_readNumber_91 (o_gen h (fun μ1 h => ?_))
          refine s_mask [true] (L' := [some (.ref (o_ad X a0))]) rfl ?_
          exact dnX4_readNumber_j94 hX h0 h kh k107
        · have h := o_if_f c1 h
          refine s_aload_n (i := 0) dX4_readNumber_62 rfl rfl ?_
          refine s_aload_n (i := 0) dX4_readNumber_63 rfl rfl ?_
          refine s_getI h0 flX4_81 rfl dX4_readNumber_64 ?_
          refine s_bipush dX4_readNumber_67 kB_10 ?_
          refine s_imul dX4_readNumber_69 ?_
          refine s_aload_n (i := 0) dX4_readNumber_70 rfl rfl ?_
          refine s_getR hX h0 flX4_9 rfl dX4_readNumber_71 (fun (g3 : o_is X (o_rf X a0 0) (.inr (1, 900))) => ?_)
          refine s_aload_n (i := 0) dX4_readNumber_74 rfl rfl ?_
          refine s_getI h0 flX4_34 rfl dX4_readNumber_75 ?_
          have hc := o_ck_c h
          have h := o_ck_k h
          refine s_baldK g3 hc rfl dX4_readNumber_78 ?_
          refine s_bipush dX4_readNumber_79 kB_48 ?_
          refine s_isub dX4_readNumber_81 ?_
          refine s_iadd dX4_readNumber_82 ?_
          refine s_putI hX h0 fwX4_81 rfl dX4_readNumber_83 (o_gen h (fun μ2 h => ?_))
          refine s_goto (tgt := 94) dX4_readNumber_86 rfl ?_
          refine s_mask [true] (L' := [some (.ref (o_ad X a0))]) rfl ?_
          exact dnX4_readNumber_j94 hX h0 h kh k107
set_option maxRecDepth 20000 in
theorem dnX4_readNumber {X : o_Cx} (hX : o_ok X) {d : Nat} {a0 : Nat} {μ0 : o_Mem} {q : Unit → o_Mem → Prop} (h0 : o_is X a0 (.inl 4)) (h : o_Post (fX4_readNumber (o_rf X) a0 μ0) q) : o_Ev X (d + 0) mX4_readNumber 0 [some (.ref (o_ad X a0))] [] μ0 (o_QU q) := by
  unfold fX4_readNumber at h
  refine s_aload_n (i := 0) dX4_readNumber_0 rfl rfl ?_
  refine s_iconst dX4_readNumber_1 kI_2 ?_
  refine s_putI hX h0 fwX4_46 rfl dX4_readNumber_2 (o_gen h (fun μ1 h => ?_))
  refine s_aload_n (i := 0) dX4_readNumber_5 rfl rfl ?_
  refine s_iconst dX4_readNumber_6 kI_0 ?_
  refine s_putI hX h0 fwX4_81 rfl dX4_readNumber_7 (o_gen h (fun μ2 h => ?_))
  refine s_mask [true] (L' := [some (.ref (o_ad X a0))]) rfl ?_
  refine o_lp_ev (fun τ10 => [some (.ref (o_ad X a0))]) (fun τ10 μ _K h kv ke10 => dnX4_readNumber_s10 hX h0 h kv (fun τ10 μ3 h => ?_)) o_fuel () μ2 (o_bdp h)
  · have h := o_if_t rfl (ke10 (107, τ10) μ3 (o_ne rfl) h)
    exact s_return rfl dX4_readNumber_107 ⟨rfl, o_ret h⟩
theorem dX4_readWord_0 : decode cX4_readWord 0 = .ok (.aload_n 0, 1) := by decide +kernel
theorem dX4_readWord_1 : decode cX4_readWord 1 = .ok (.iconst 1, 1) := by decide +kernel
theorem dX4_readWord_2 : decode cX4_readWord 2 = .ok (.putfield 46, 3) := by decide +kernel
theorem dX4_readWord_5 : decode cX4_readWord 5 = .ok (.aload_n 0, 1) := by decide +kernel
theorem dX4_readWord_6 : decode cX4_readWord 6 = .ok (.lconst 0, 1) := by decide +kernel
theorem dX4_readWord_7 : decode cX4_readWord 7 = .ok (.putfield 62, 3) := by decide +kernel
theorem dX4_readWord_10 : decode cX4_readWord 10 = .ok (.aload_n 0, 1) := by decide +kernel
theorem dX4_readWord_11 : decode cX4_readWord 11 = .ok (.getfield 34, 3) := by decide +kernel
theorem dX4_readWord_14 : decode cX4_readWord 14 = .ok (.aload_n 0, 1) := by decide +kernel
theorem dX4_readWord_15 : decode cX4_readWord 15 = .ok (.getfield 31, 3) := by decide +kernel
theorem dX4_readWord_18 : decode cX4_readWord 18 = .ok (.if_icmp .ge 90, 3) := by decide +kernel
theorem dX4_readWord_21 : decode cX4_readWord 21 = .ok (.aload_n 0, 1) := by decide +kernel
theorem dX4_readWord_22 : decode cX4_readWord 22 = .ok (.getfield 9, 3) := by decide +kernel
theorem dX4_readWord_25 : decode cX4_readWord 25 = .ok (.aload_n 0, 1) := by decide +kernel
theorem dX4_readWord_26 : decode cX4_readWord 26 = .ok (.getfield 34, 3) := by decide +kernel
theorem dX4_readWord_29 : decode cX4_readWord 29 = .ok (.baload, 1) := by decide +kernel
theorem dX4_readWord_30 : decode cX4_readWord 30 = .ok (.bipush 97, 2) := by decide +kernel
theorem dX4_readWord_32 : decode cX4_readWord 32 = .ok (.if_icmp .lt 76, 3) := by decide +kernel
theorem dX4_readWord_35 : decode cX4_readWord 35 = .ok (.aload_n 0, 1) := by decide +kernel
theorem dX4_readWord_36 : decode cX4_readWord 36 = .ok (.getfield 9, 3) := by decide +kernel
theorem dX4_readWord_39 : decode cX4_readWord 39 = .ok (.aload_n 0, 1) := by decide +kernel
theorem dX4_readWord_40 : decode cX4_readWord 40 = .ok (.getfield 34, 3) := by decide +kernel
theorem dX4_readWord_43 : decode cX4_readWord 43 = .ok (.baload, 1) := by decide +kernel
theorem dX4_readWord_44 : decode cX4_readWord 44 = .ok (.bipush 122, 2) := by decide +kernel
theorem dX4_readWord_46 : decode cX4_readWord 46 = .ok (.if_icmp .gt 62, 3) := by decide +kernel
theorem dX4_readWord_49 : decode cX4_readWord 49 = .ok (.aload_n 0, 1) := by decide +kernel
theorem dX4_readWord_50 : decode cX4_readWord 50 = .ok (.aload_n 0, 1) := by decide +kernel
theorem dX4_readWord_51 : decode cX4_readWord 51 = .ok (.getfield 34, 3) := by decide +kernel
theorem dX4_readWord_54 : decode cX4_readWord 54 = .ok (.aload_n 0, 1) := by decide +kernel
theorem dX4_readWord_55 : decode cX4_readWord 55 = .ok (.getfield 40, 3) := by decide +kernel
theorem dX4_readWord_58 : decode cX4_readWord 58 = .ok (.isub, 1) := by decide +kernel
theorem dX4_readWord_59 : decode cX4_readWord 59 = .ok (.bipush 8, 2) := by decide +kernel
theorem dX4_readWord_61 : decode cX4_readWord 61 = .ok (.if_icmp .ge 28, 3) := by decide +kernel
theorem dX4_readWord_64 : decode cX4_readWord 64 = .ok (.aload_n 0, 1) := by decide +kernel
theorem dX4_readWord_65 : decode cX4_readWord 65 = .ok (.getfield 62, 3) := by decide +kernel
theorem dX4_readWord_68 : decode cX4_readWord 68 = .ok (.ldc2_w 66, 3) := by decide +kernel
theorem dX4_readWord_71 : decode cX4_readWord 71 = .ok (.lmul, 1) := by decide +kernel
theorem dX4_readWord_72 : decode cX4_readWord 72 = .ok (.aload_n 0, 1) := by decide +kernel
theorem dX4_readWord_73 : decode cX4_readWord 73 = .ok (.getfield 9, 3) := by decide +kernel
theorem dX4_readWord_76 : decode cX4_readWord 76 = .ok (.aload_n 0, 1) := by decide +kernel
theorem dX4_readWord_77 : decode cX4_readWord 77 = .ok (.getfield 34, 3) := by decide +kernel
theorem dX4_readWord_80 : decode cX4_readWord 80 = .ok (.baload, 1) := by decide +kernel
theorem dX4_readWord_81 : decode cX4_readWord 81 = .ok (.bipush 96, 2) := by decide +kernel
theorem dX4_readWord_83 : decode cX4_readWord 83 = .ok (.isub, 1) := by decide +kernel
theorem dX4_readWord_84 : decode cX4_readWord 84 = .ok (.i2l, 1) := by decide +kernel
theorem dX4_readWord_85 : decode cX4_readWord 85 = .ok (.ladd, 1) := by decide +kernel
theorem dX4_readWord_86 : decode cX4_readWord 86 = .ok (.goto 6, 3) := by decide +kernel
theorem dX4_readWord_89 : decode cX4_readWord 89 = .ok (.ldc2_w 68, 3) := by decide +kernel
theorem dX4_readWord_92 : decode cX4_readWord 92 = .ok (.putfield 62, 3) := by decide +kernel
theorem dX4_readWord_95 : decode cX4_readWord 95 = .ok (.aload_n 0, 1) := by decide +kernel
theorem dX4_readWord_96 : decode cX4_readWord 96 = .ok (.dup, 1) := by decide +kernel
theorem dX4_readWord_97 : decode cX4_readWord 97 = .ok (.getfield 34, 3) := by decide +kernel
theorem dX4_readWord_100 : decode cX4_readWord 100 = .ok (.iconst 1, 1) := by decide +kernel
theorem dX4_readWord_101 : decode cX4_readWord 101 = .ok (.iadd, 1) := by decide +kernel
theorem dX4_readWord_102 : decode cX4_readWord 102 = .ok (.putfield 34, 3) := by decide +kernel
theorem dX4_readWord_105 : decode cX4_readWord 105 = .ok (.goto (-95), 3) := by decide +kernel
theorem dX4_readWord_108 : decode cX4_readWord 108 = .ok (.lconst 0, 1) := by decide +kernel
theorem dX4_readWord_109 : decode cX4_readWord 109 = .ok (.lstore_n 1, 1) := by decide +kernel
theorem dX4_readWord_110 : decode cX4_readWord 110 = .ok (.iconst 0, 1) := by decide +kernel
theorem dX4_readWord_111 : decode cX4_readWord 111 = .ok (.istore_n 3, 1) := by decide +kernel
theorem dX4_readWord_112 : decode cX4_readWord 112 = .ok (.iconst 0, 1) := by decide +kernel
theorem dX4_readWord_113 : decode cX4_readWord 113 = .ok (.istore 4, 2) := by decide +kernel
theorem dX4_readWord_115 : decode cX4_readWord 115 = .ok (.iload 4, 2) := by decide +kernel
theorem dX4_readWord_117 : decode cX4_readWord 117 = .ok (.ldc 70, 2) := by decide +kernel
theorem dX4_readWord_119 : decode cX4_readWord 119 = .ok (.invokevirtual 72, 3) := by decide +kernel
theorem dX4_readWord_122 : decode cX4_readWord 122 = .ok (.if_icmp .ge 60, 3) := by decide +kernel
theorem dX4_readWord_125 : decode cX4_readWord 125 = .ok (.ldc 70, 2) := by decide +kernel
theorem dX4_readWord_127 : decode cX4_readWord 127 = .ok (.iload 4, 2) := by decide +kernel
theorem dX4_readWord_129 : decode cX4_readWord 129 = .ok (.invokevirtual 77, 3) := by decide +kernel
theorem dX4_readWord_132 : decode cX4_readWord 132 = .ok (.istore 5, 2) := by decide +kernel
theorem dX4_readWord_134 : decode cX4_readWord 134 = .ok (.iload 5, 2) := by decide +kernel
theorem dX4_readWord_136 : decode cX4_readWord 136 = .ok (.bipush 32, 2) := by decide +kernel
theorem dX4_readWord_138 : decode cX4_readWord 138 = .ok (.if_icmp .eq 19, 3) := by decide +kernel
theorem dX4_readWord_141 : decode cX4_readWord 141 = .ok (.lload_n 1, 1) := by decide +kernel
theorem dX4_readWord_142 : decode cX4_readWord 142 = .ok (.ldc2_w 66, 3) := by decide +kernel
theorem dX4_readWord_145 : decode cX4_readWord 145 = .ok (.lmul, 1) := by decide +kernel
theorem dX4_readWord_146 : decode cX4_readWord 146 = .ok (.iload 5, 2) := by decide +kernel
theorem dX4_readWord_148 : decode cX4_readWord 148 = .ok (.bipush 96, 2) := by decide +kernel
theorem dX4_readWord_150 : decode cX4_readWord 150 = .ok (.isub, 1) := by decide +kernel
theorem dX4_readWord_151 : decode cX4_readWord 151 = .ok (.i2l, 1) := by decide +kernel
theorem dX4_readWord_152 : decode cX4_readWord 152 = .ok (.ladd, 1) := by decide +kernel
theorem dX4_readWord_153 : decode cX4_readWord 153 = .ok (.lstore_n 1, 1) := by decide +kernel
theorem dX4_readWord_154 : decode cX4_readWord 154 = .ok (.goto 22, 3) := by decide +kernel
theorem dX4_readWord_157 : decode cX4_readWord 157 = .ok (.lload_n 1, 1) := by decide +kernel
theorem dX4_readWord_158 : decode cX4_readWord 158 = .ok (.aload_n 0, 1) := by decide +kernel
theorem dX4_readWord_159 : decode cX4_readWord 159 = .ok (.getfield 62, 3) := by decide +kernel
theorem dX4_readWord_162 : decode cX4_readWord 162 = .ok (.lcmp, 1) := by decide +kernel
theorem dX4_readWord_163 : decode cX4_readWord 163 = .ok (.ifCond .ne 8, 3) := by decide +kernel
theorem dX4_readWord_166 : decode cX4_readWord 166 = .ok (.aload_n 0, 1) := by decide +kernel
theorem dX4_readWord_167 : decode cX4_readWord 167 = .ok (.iload_n 3, 1) := by decide +kernel
theorem dX4_readWord_168 : decode cX4_readWord 168 = .ok (.putfield 43, 3) := by decide +kernel
theorem dX4_readWord_171 : decode cX4_readWord 171 = .ok (.iinc 3 1, 3) := by decide +kernel
theorem dX4_readWord_174 : decode cX4_readWord 174 = .ok (.lconst 0, 1) := by decide +kernel
theorem dX4_readWord_175 : decode cX4_readWord 175 = .ok (.lstore_n 1, 1) := by decide +kernel
theorem dX4_readWord_176 : decode cX4_readWord 176 = .ok (.iinc 4 1, 3) := by decide +kernel
theorem dX4_readWord_179 : decode cX4_readWord 179 = .ok (.goto (-64), 3) := by decide +kernel
theorem dX4_readWord_182 : decode cX4_readWord 182 = .ok (.return_, 1) := by decide +kernel
noncomputable def fX4_readWord_j92 (rf : Nat → Nat → Nat) (a0 : Nat) (b0 : Nat) (y1 : Int64) (μ0 : o_Mem) : Option ((Nat × (Unit)) × o_Mem) :=
  o_seq (o_wL μ0 b0 9 y1) fun μ1 =>
  o_seq (o_wI μ1 a0 5 ((μ1.1 a0 5) + 1)) fun μ2 =>
  some ((10, ()), μ2)
noncomputable def fX4_readWord_s10 (rf : Nat → Nat → Nat) (a0 : Nat) (τ10 : Unit) (μ0 : o_Mem) : Option ((Nat × (Unit)) × o_Mem) :=
  if (μ0.1 a0 4) ≤ (μ0.1 a0 5) then (
    some ((108, ()), μ0))
  else (
    o_ck (0 ≤ ((μ0.1 a0 5)).toInt ∧ ((μ0.1 a0 5)).toInt < 900) <|
    if (μ0.1 (rf a0 0) ((μ0.1 a0 5)).toNatClampNeg) < 97 then (
      some ((108, ()), μ0))
    else (
      o_ck (0 ≤ ((μ0.1 a0 5)).toInt ∧ ((μ0.1 a0 5)).toInt < 900) <|
      if 122 < (μ0.1 (rf a0 0) ((μ0.1 a0 5)).toNatClampNeg) then (
        some ((108, ()), μ0))
      else (
        if 8 ≤ ((μ0.1 a0 5) - (μ0.1 a0 6)) then (
          fX4_readWord_j92 rf a0 a0 ((-1) : Int64) μ0)
        else (
          o_ck (0 ≤ ((μ0.1 a0 5)).toInt ∧ ((μ0.1 a0 5)).toInt < 900) <|
          fX4_readWord_j92 rf a0 a0 (((μ0.2 a0 9) * (32 : Int64)) + ((μ0.1 (rf a0 0) ((μ0.1 a0 5)).toNatClampNeg) - 96).toInt64) μ0))))
noncomputable def fX4_readWord_j171 (rf : Nat → Nat → Nat) (a0 : Nat) (x3 : Int32) (x4 : Int32) (μ0 : o_Mem) : Option ((Nat × (Int64 × Int32 × Int32)) × o_Mem) :=
  some ((115, ((0 : Int64), (x3 + 1), (x4 + 1))), μ0)
noncomputable def fX4_readWord_s115 (rf : Nat → Nat → Nat) (a0 : Nat) (τ115 : Int64 × Int32 × Int32) (μ0 : o_Mem) : Option ((Nat × (Int64 × Int32 × Int32)) × o_Mem) :=
  if (o_ln 0) ≤ τ115.2.2 then (
    some ((182, (0, 0, 0)), μ0))
  else (
    o_ck (0 ≤ (τ115.2.2).toInt ∧ (τ115.2.2).toInt < (o_ln 0).toInt) <|
    if (o_chr 0 (τ115.2.2).toNatClampNeg) = 32 then (
      if τ115.1 = (μ0.2 a0 9) then (
        o_seq (o_wI μ0 a0 8 τ115.2.1) fun μ1 =>
        fX4_readWord_j171 rf a0 τ115.2.1 τ115.2.2 μ1)
      else (
        fX4_readWord_j171 rf a0 τ115.2.1 τ115.2.2 μ0))
    else (
      some ((115, (((τ115.1 * (32 : Int64)) + ((o_chr 0 (τ115.2.2).toNatClampNeg) - 96).toInt64), τ115.2.1, (τ115.2.2 + 1))), μ0)))
noncomputable def fX4_readWord (rf : Nat → Nat → Nat) (a0 : Nat) (μ0 : o_Mem) : Option (Unit × o_Mem) :=
  o_seq (o_wI μ0 a0 7 1) fun μ1 =>
  o_seq (o_wL μ1 a0 9 (0 : Int64)) fun μ2 =>
  o_bd (o_lp 10 (fX4_readWord_s10 rf a0) o_fuel () μ2) fun ex3 μ3 =>
  if ex3.1 = 108 then (
    o_bd (o_lp 115 (fX4_readWord_s115 rf a0) o_fuel ((0 : Int64), 0, 0) μ3) fun ex4 μ4 =>
    if ex4.1 = 182 then (
      some ((), μ4))
    else
      none)
  else
    none
set_option maxRecDepth 20000 in
theorem dnX4_readWord_j92 {X : o_Cx} (hX : o_ok X) {d : Nat} {a0 : Nat} {b0 : Nat} {y1 : Int64} {μ0 : o_Mem} {K : (Nat × (Unit)) → o_Mem → Prop} {Q : Option Value → o_Mem → Prop} (h0 : o_is X a0 (.inl 4)) (hb0 : o_is X b0 (.inl 4)) (h : o_Post (fX4_readWord_j92 (o_rf X) a0 b0 y1 μ0) K) (kh : ∀ (τ10 : Unit) (μ : o_Mem), K (10, τ10) μ → o_Ev X (d + 4) mX4_readWord 10 [some (.ref (o_ad X a0)), none, none, none, none, none] [] μ Q) (k108 : ∀ (τ10 : Unit) (μ : o_Mem), K (108, τ10) μ → o_Ev X (d + 4) mX4_readWord 108 [some (.ref (o_ad X a0)), none, none, none, none, none] [] μ Q) : o_Ev X (d + 4) mX4_readWord 92 [some (.ref (o_ad X a0)), none, none, none, none, none] [.long y1, .ref (o_ad X b0)] μ0 Q := by
  unfold fX4_readWord_j92 at h
  refine s_putL hX hb0 fwX4_62 rfl dX4_readWord_92 (o_gen h (fun μ1 h => ?_))
  refine s_aload_n (i := 0) dX4_readWord_95 rfl rfl ?_
  refine s_dup dX4_readWord_96 rfl ?_
  refine s_getI h0 flX4_34 rfl dX4_readWord_97 ?_
  refine s_iconst dX4_readWord_100 kI_1 ?_
  refine s_iadd dX4_readWord_101 ?_
  refine s_putI hX h0 fwX4_34 rfl dX4_readWord_102 (o_gen h (fun μ2 h => ?_))
  refine s_goto (tgt := 10) dX4_readWord_105 rfl ?_
  refine s_mask [true, false, false, false, false, false] (L' := [some (.ref (o_ad X a0)), none, none, none, none, none]) rfl ?_
  exact kh () _ (o_ret h)
set_option maxRecDepth 20000 in
theorem dnX4_readWord_s10 {X : o_Cx} (hX : o_ok X) {d : Nat} {a0 : Nat} {τ10 : Unit} {μ0 : o_Mem} {K : (Nat × (Unit)) → o_Mem → Prop} {Q : Option Value → o_Mem → Prop} (h0 : o_is X a0 (.inl 4)) (h : o_Post (fX4_readWord_s10 (o_rf X) a0 τ10 μ0) K) (kh : ∀ (τ10 : Unit) (μ : o_Mem), K (10, τ10) μ → o_Ev X (d + 4) mX4_readWord 10 [some (.ref (o_ad X a0)), none, none, none, none, none] [] μ Q) (k108 : ∀ (τ10 : Unit) (μ : o_Mem), K (108, τ10) μ → o_Ev X (d + 4) mX4_readWord 108 [some (.ref (o_ad X a0)), none, none, none, none, none] [] μ Q) : o_Ev X (d + 4) mX4_readWord 10 [some (.ref (o_ad X a0)), none, none, none, none, none] [] μ0 Q := by
  unfold fX4_readWord_s10 at h
  refine s_aload_n (i := 0) dX4_readWord_10 rfl rfl ?_
  refine s_getI h0 flX4_34 rfl dX4_readWord_11 ?_
  refine s_aload_n (i := 0) dX4_readWord_14 rfl rfl ?_
  refine s_getI h0 flX4_31 rfl dX4_readWord_15 ?_
  refine s_icmp_ge (tgt := 108) dX4_readWord_18 rfl (fun c1 => ?_) (fun c1 => ?_)
  · have h := o_if_t c1 h
    refine s_mask [true, false, false, false, false, false] (L' := [some (.ref (o_ad X a0)), none, none, none, none, none]) rfl ?_
    exact k108 () _ (o_ret h)
  · have h := o_if_f c1 h
    refine s_aload_n (i := 0) dX4_readWord_21 rfl rfl ?_
    refine s_getR hX h0 flX4_9 rfl dX4_readWord_22 (fun (g1 : o_is X (o_rf X a0 0) (.inr (1, 900))) => ?_)
    refine s_aload_n (i := 0) dX4_readWord_25 rfl rfl ?_
    refine s_getI h0 flX4_34 rfl dX4_readWord_26 ?_
    have hc := o_ck_c h
    have h := o_ck_k h
    refine s_baldK g1 hc rfl dX4_readWord_29 ?_
    refine s_bipush dX4_readWord_30 kB_97 ?_
    refine s_icmp_lt (tgt := 108) dX4_readWord_32 rfl (fun c1 => ?_) (fun c1 => ?_)
    · have h := o_if_t c1 h
      refine s_mask [true, false, false, false, false, false] (L' := [some (.ref (o_ad X a0)), none, none, none, none, none]) rfl ?_
      exact k108 () _ (o_ret h)
    · have h := o_if_f c1 h
      refine s_aload_n (i := 0) dX4_readWord_35 rfl rfl ?_
      refine s_getR hX h0 flX4_9 rfl dX4_readWord_36 (fun (g2 : o_is X (o_rf X a0 0) (.inr (1, 900))) => ?_)
      refine s_aload_n (i := 0) dX4_readWord_39 rfl rfl ?_
      refine s_getI h0 flX4_34 rfl dX4_readWord_40 ?_
      have hc := o_ck_c h
      have h := o_ck_k h
      refine s_baldK g2 hc rfl dX4_readWord_43 ?_
      refine s_bipush dX4_readWord_44 kB_122 ?_
      refine s_icmp_gt (tgt := 108) dX4_readWord_46 rfl (fun c1 => ?_) (fun c1 => ?_)
      · have h := o_if_t c1 h
        refine s_mask [true, false, false, false, false, false] (L' := [some (.ref (o_ad X a0)), none, none, none, none, none]) rfl ?_
        exact k108 () _ (o_ret h)
      · have h := o_if_f c1 h
        refine s_aload_n (i := 0) dX4_readWord_49 rfl rfl ?_
        refine s_aload_n (i := 0) dX4_readWord_50 rfl rfl ?_
        refine s_getI h0 flX4_34 rfl dX4_readWord_51 ?_
        refine s_aload_n (i := 0) dX4_readWord_54 rfl rfl ?_
        refine s_getI h0 flX4_40 rfl dX4_readWord_55 ?_
        refine s_isub dX4_readWord_58 ?_
        refine s_bipush dX4_readWord_59 kB_8 ?_
        refine s_icmp_ge (tgt := 89) dX4_readWord_61 rfl (fun c1 => ?_) (fun c1 => ?_)
        · have h := o_if_t c1 h
          refine s_ldc2 (v := (-1)) w_3_116 dX4_readWord_89 ?_
          refine s_mask [true, false, false, false, false, false] (L' := [some (.ref (o_ad X a0)), none, none, none, none, none]) rfl ?_
          exact dnX4_readWord_j92 hX h0 h0 h kh k108
        · have h := o_if_f c1 h
          refine s_aload_n (i := 0) dX4_readWord_64 rfl rfl ?_
          refine s_getL h0 flX4_62 rfl dX4_readWord_65 ?_
          refine s_ldc2 (v := 32) w_3_115 dX4_readWord_68 ?_
          refine s_lmul dX4_readWord_71 ?_
          refine s_aload_n (i := 0) dX4_readWord_72 rfl rfl ?_
          refine s_getR hX h0 flX4_9 rfl dX4_readWord_73 (fun (g3 : o_is X (o_rf X a0 0) (.inr (1, 900))) => ?_)
          refine s_aload_n (i := 0) dX4_readWord_76 rfl rfl ?_
          refine s_getI h0 flX4_34 rfl dX4_readWord_77 ?_
          have hc := o_ck_c h
          have h := o_ck_k h
          refine s_baldK g3 hc rfl dX4_readWord_80 ?_
          refine s_bipush dX4_readWord_81 kB_96 ?_
          refine s_isub dX4_readWord_83 ?_
          refine s_i2l dX4_readWord_84 ?_
          refine s_ladd dX4_readWord_85 ?_
          refine s_goto (tgt := 92) dX4_readWord_86 rfl ?_
          refine s_mask [true, false, false, false, false, false] (L' := [some (.ref (o_ad X a0)), none, none, none, none, none]) rfl ?_
          exact dnX4_readWord_j92 hX h0 h0 h kh k108
set_option maxRecDepth 20000 in
theorem dnX4_readWord_j171 {X : o_Cx} (hX : o_ok X) {d : Nat} {a0 : Nat} {x3 : Int32} {x4 : Int32} {μ0 : o_Mem} {K : (Nat × (Int64 × Int32 × Int32)) → o_Mem → Prop} {Q : Option Value → o_Mem → Prop} (h0 : o_is X a0 (.inl 4)) (h : o_Post (fX4_readWord_j171 (o_rf X) a0 x3 x4 μ0) K) (kh : ∀ (τ115 : Int64 × Int32 × Int32) (μ : o_Mem), K (115, τ115) μ → o_Ev X (d + 4) mX4_readWord 115 [some (.ref (o_ad X a0)), some (.long τ115.1), none, some (.int τ115.2.1), some (.int τ115.2.2), none] [] μ Q) (k182 : ∀ (τ115 : Int64 × Int32 × Int32) (μ : o_Mem), K (182, τ115) μ → o_Ev X (d + 4) mX4_readWord 182 [none, none, none, none, none, none] [] μ Q) : o_Ev X (d + 4) mX4_readWord 171 [some (.ref (o_ad X a0)), none, none, some (.int x3), some (.int x4), none] [] μ0 Q := by
  unfold fX4_readWord_j171 at h
  refine s_iinc (v := (x3 + 1)) dX4_readWord_171 rfl rfl (Nat.le_of_ble_eq_true rfl) rfl ?_
  refine s_lconst (v := 0) dX4_readWord_174 rfl ?_
  refine s_lstore_n (i := 1) dX4_readWord_175 rfl (Nat.le_of_ble_eq_true rfl) rfl ?_
  refine s_iinc (v := (x4 + 1)) dX4_readWord_176 rfl rfl (Nat.le_of_ble_eq_true rfl) rfl ?_
  refine s_goto (tgt := 115) dX4_readWord_179 rfl ?_
  refine s_mask [true, true, false, true, true, false] (L' := [some (.ref (o_ad X a0)), some (.long (0 : Int64)), none, some (.int (x3 + 1)), some (.int (x4 + 1)), none]) rfl ?_
  exact kh ((0 : Int64), (x3 + 1), (x4 + 1)) _ (o_ret h)
set_option maxRecDepth 20000 in
theorem dnX4_readWord_s115 {X : o_Cx} (hX : o_ok X) {d : Nat} {a0 : Nat} {τ115 : Int64 × Int32 × Int32} {μ0 : o_Mem} {K : (Nat × (Int64 × Int32 × Int32)) → o_Mem → Prop} {Q : Option Value → o_Mem → Prop} (h0 : o_is X a0 (.inl 4)) (h : o_Post (fX4_readWord_s115 (o_rf X) a0 τ115 μ0) K) (kh : ∀ (τ115 : Int64 × Int32 × Int32) (μ : o_Mem), K (115, τ115) μ → o_Ev X (d + 4) mX4_readWord 115 [some (.ref (o_ad X a0)), some (.long τ115.1), none, some (.int τ115.2.1), some (.int τ115.2.2), none] [] μ Q) (k182 : ∀ (τ115 : Int64 × Int32 × Int32) (μ : o_Mem), K (182, τ115) μ → o_Ev X (d + 4) mX4_readWord 182 [none, none, none, none, none, none] [] μ Q) : o_Ev X (d + 4) mX4_readWord 115 [some (.ref (o_ad X a0)), some (.long τ115.1), none, some (.int τ115.2.1), some (.int τ115.2.2), none] [] μ0 Q := by
  unfold fX4_readWord_s115 at h
  refine s_iload dX4_readWord_115 rfl ?_
  refine s_ldcS0 rfl dX4_readWord_117 ?_
  refine s_strlen0 (rest := [.int τ115.2.2]) mlX4_72 (Nat.le_of_ble_eq_true rfl) dX4_readWord_119 ?_
  refine s_icmp_ge (tgt := 182) dX4_readWord_122 rfl (fun c1 => ?_) (fun c1 => ?_)
  · have h := o_if_t c1 h
    refine s_mask [false, false, false, false, false, false] (L' := [none, none, none, none, none, none]) rfl ?_
    exact k182 (0, 0, 0) _ (o_ret h)
  · have h := o_if_f c1 h
    refine s_ldcS0 rfl dX4_readWord_125 ?_
    refine s_iload dX4_readWord_127 rfl ?_
    have hc := o_ck_c h
    have h := o_ck_k h
    refine s_charAt0 (rest := []) mlX4_77 hc (Nat.le_of_ble_eq_true rfl) dX4_readWord_129 ?_
    refine s_istore dX4_readWord_132 (Nat.le_of_ble_eq_true rfl) rfl ?_
    refine s_iload dX4_readWord_134 rfl ?_
    refine s_bipush dX4_readWord_136 kB_32 ?_
    refine s_icmp_eq (tgt := 157) dX4_readWord_138 rfl (fun c1 => ?_) (fun c1 => ?_)
    · have h := o_if_t c1 h
      refine s_lload_n (i := 1) dX4_readWord_157 rfl rfl ?_
      refine s_aload_n (i := 0) dX4_readWord_158 rfl rfl ?_
      refine s_getL h0 flX4_62 rfl dX4_readWord_159 ?_
      refine s_lif_ne (tgt := 171) dX4_readWord_162 dX4_readWord_163 rfl (fun c1 => ?_) (fun c1 => ?_)
      · have h := o_if_f c1 h
        refine s_mask [true, false, false, true, true, false] (L' := [some (.ref (o_ad X a0)), none, none, some (.int τ115.2.1), some (.int τ115.2.2), none]) rfl ?_
        exact dnX4_readWord_j171 hX h0 h kh k182
      · have h := o_if_t c1 h
        refine s_aload_n (i := 0) dX4_readWord_166 rfl rfl ?_
        refine s_iload_n (i := 3) dX4_readWord_167 rfl rfl ?_
        refine s_putI hX h0 fwX4_43 rfl dX4_readWord_168 (o_gen h (fun μ1 h => ?_))
        refine s_mask [true, false, false, true, true, false] (L' := [some (.ref (o_ad X a0)), none, none, some (.int τ115.2.1), some (.int τ115.2.2), none]) rfl ?_
        exact dnX4_readWord_j171 hX h0 h kh k182
    · have h := o_if_f c1 h
      refine s_lload_n (i := 1) dX4_readWord_141 rfl rfl ?_
      refine s_ldc2 (v := 32) w_3_115 dX4_readWord_142 ?_
      refine s_lmul dX4_readWord_145 ?_
      refine s_iload dX4_readWord_146 rfl ?_
      refine s_bipush dX4_readWord_148 kB_96 ?_
      refine s_isub dX4_readWord_150 ?_
      refine s_i2l dX4_readWord_151 ?_
      refine s_ladd dX4_readWord_152 ?_
      refine s_lstore_n (i := 1) dX4_readWord_153 rfl (Nat.le_of_ble_eq_true rfl) rfl ?_
      refine s_goto (tgt := 176) dX4_readWord_154 rfl ?_
      refine s_iinc (v := (τ115.2.2 + 1)) dX4_readWord_176 rfl rfl (Nat.le_of_ble_eq_true rfl) rfl ?_
      refine s_goto (tgt := 115) dX4_readWord_179 rfl ?_
      refine s_mask [true, true, false, true, true, false] (L' := [some (.ref (o_ad X a0)), some (.long ((τ115.1 * (32 : Int64)) + ((o_chr 0 (τ115.2.2).toNatClampNeg) - 96).toInt64)), none, some (.int τ115.2.1), some (.int (τ115.2.2 + 1)), none]) rfl ?_
      exact kh (((τ115.1 * (32 : Int64)) + ((o_chr 0 (τ115.2.2).toNatClampNeg) - 96).toInt64), τ115.2.1, (τ115.2.2 + 1)) _ (o_ret h)
set_option maxRecDepth 20000 in
theorem dnX4_readWord {X : o_Cx} (hX : o_ok X) {d : Nat} {a0 : Nat} {μ0 : o_Mem} {q : Unit → o_Mem → Prop} (h0 : o_is X a0 (.inl 4)) (h : o_Post (fX4_readWord (o_rf X) a0 μ0) q) : o_Ev X (d + 4) mX4_readWord 0 [some (.ref (o_ad X a0)), none, none, none, none, none] [] μ0 (o_QU q) := by
  unfold fX4_readWord at h
  refine s_aload_n (i := 0) dX4_readWord_0 rfl rfl ?_
  refine s_iconst dX4_readWord_1 kI_1 ?_
  refine s_putI hX h0 fwX4_46 rfl dX4_readWord_2 (o_gen h (fun μ1 h => ?_))
  refine s_aload_n (i := 0) dX4_readWord_5 rfl rfl ?_
  refine s_lconst (v := 0) dX4_readWord_6 rfl ?_
  refine s_putL hX h0 fwX4_62 rfl dX4_readWord_7 (o_gen h (fun μ2 h => ?_))
  refine s_mask [true, false, false, false, false, false] (L' := [some (.ref (o_ad X a0)), none, none, none, none, none]) rfl ?_
  refine o_lp_ev (fun τ10 => [some (.ref (o_ad X a0)), none, none, none, none, none]) (fun τ10 μ _K h kv ke10 => dnX4_readWord_s10 hX h0 h kv (fun τ10 μ3 h => ?_)) o_fuel () μ2 (o_bdp h)
  · have h := o_if_t rfl (ke10 (108, τ10) μ3 (o_ne rfl) h)
    refine s_lconst (v := 0) dX4_readWord_108 rfl ?_
    refine s_lstore_n (i := 1) dX4_readWord_109 rfl (Nat.le_of_ble_eq_true rfl) rfl ?_
    refine s_iconst dX4_readWord_110 kI_0 ?_
    refine s_istore_n (i := 3) dX4_readWord_111 rfl (Nat.le_of_ble_eq_true rfl) rfl ?_
    refine s_iconst dX4_readWord_112 kI_0 ?_
    refine s_istore dX4_readWord_113 (Nat.le_of_ble_eq_true rfl) rfl ?_
    refine s_mask [true, true, false, true, true, false] (L' := [some (.ref (o_ad X a0)), some (.long (0 : Int64)), none, some (.int 0), some (.int 0), none]) rfl ?_
    refine o_lp_ev (fun τ115 => [some (.ref (o_ad X a0)), some (.long τ115.1), none, some (.int τ115.2.1), some (.int τ115.2.2), none]) (fun τ115 μ _K h kv ke115 => dnX4_readWord_s115 hX h0 h kv (fun τ115 μ4 h => ?_)) o_fuel ((0 : Int64), 0, 0) μ3 (o_bdp h)
    · have h := o_if_t rfl (ke115 (182, τ115) μ4 (o_ne rfl) h)
      exact s_return rfl dX4_readWord_182 ⟨rfl, o_ret h⟩
theorem dX4_next_0 : decode cX4_next 0 = .ok (.aload_n 0, 1) := by decide +kernel
theorem dX4_next_1 : decode cX4_next 1 = .ok (.getfield 34, 3) := by decide +kernel
theorem dX4_next_4 : decode cX4_next 4 = .ok (.aload_n 0, 1) := by decide +kernel
theorem dX4_next_5 : decode cX4_next 5 = .ok (.getfield 31, 3) := by decide +kernel
theorem dX4_next_8 : decode cX4_next 8 = .ok (.if_icmp .ge 44, 3) := by decide +kernel
theorem dX4_next_11 : decode cX4_next 11 = .ok (.aload_n 0, 1) := by decide +kernel
theorem dX4_next_12 : decode cX4_next 12 = .ok (.getfield 9, 3) := by decide +kernel
theorem dX4_next_15 : decode cX4_next 15 = .ok (.aload_n 0, 1) := by decide +kernel
theorem dX4_next_16 : decode cX4_next 16 = .ok (.getfield 34, 3) := by decide +kernel
theorem dX4_next_19 : decode cX4_next 19 = .ok (.baload, 1) := by decide +kernel
theorem dX4_next_20 : decode cX4_next 20 = .ok (.bipush 10, 2) := by decide +kernel
theorem dX4_next_22 : decode cX4_next 22 = .ok (.if_icmp .eq 17, 3) := by decide +kernel
theorem dX4_next_25 : decode cX4_next 25 = .ok (.aload_n 0, 1) := by decide +kernel
theorem dX4_next_26 : decode cX4_next 26 = .ok (.getfield 9, 3) := by decide +kernel
theorem dX4_next_29 : decode cX4_next 29 = .ok (.aload_n 0, 1) := by decide +kernel
theorem dX4_next_30 : decode cX4_next 30 = .ok (.getfield 34, 3) := by decide +kernel
theorem dX4_next_33 : decode cX4_next 33 = .ok (.baload, 1) := by decide +kernel
theorem dX4_next_34 : decode cX4_next 34 = .ok (.bipush 32, 2) := by decide +kernel
theorem dX4_next_36 : decode cX4_next 36 = .ok (.if_icmp .ne 16, 3) := by decide +kernel
theorem dX4_next_39 : decode cX4_next 39 = .ok (.aload_n 0, 1) := by decide +kernel
theorem dX4_next_40 : decode cX4_next 40 = .ok (.dup, 1) := by decide +kernel
theorem dX4_next_41 : decode cX4_next 41 = .ok (.getfield 34, 3) := by decide +kernel
theorem dX4_next_44 : decode cX4_next 44 = .ok (.iconst 1, 1) := by decide +kernel
theorem dX4_next_45 : decode cX4_next 45 = .ok (.iadd, 1) := by decide +kernel
theorem dX4_next_46 : decode cX4_next 46 = .ok (.putfield 34, 3) := by decide +kernel
theorem dX4_next_49 : decode cX4_next 49 = .ok (.goto (-49), 3) := by decide +kernel
theorem dX4_next_52 : decode cX4_next 52 = .ok (.aload_n 0, 1) := by decide +kernel
theorem dX4_next_53 : decode cX4_next 53 = .ok (.aload_n 0, 1) := by decide +kernel
theorem dX4_next_54 : decode cX4_next 54 = .ok (.getfield 34, 3) := by decide +kernel
theorem dX4_next_57 : decode cX4_next 57 = .ok (.putfield 40, 3) := by decide +kernel
theorem dX4_next_60 : decode cX4_next 60 = .ok (.aload_n 0, 1) := by decide +kernel
theorem dX4_next_61 : decode cX4_next 61 = .ok (.iconst (-1), 1) := by decide +kernel
theorem dX4_next_62 : decode cX4_next 62 = .ok (.putfield 43, 3) := by decide +kernel
theorem dX4_next_65 : decode cX4_next 65 = .ok (.aload_n 0, 1) := by decide +kernel
theorem dX4_next_66 : decode cX4_next 66 = .ok (.getfield 34, 3) := by decide +kernel
theorem dX4_next_69 : decode cX4_next 69 = .ok (.aload_n 0, 1) := by decide +kernel
theorem dX4_next_70 : decode cX4_next 70 = .ok (.getfield 31, 3) := by decide +kernel
theorem dX4_next_73 : decode cX4_next 73 = .ok (.if_icmp .lt 11, 3) := by decide +kernel
theorem dX4_next_76 : decode cX4_next 76 = .ok (.aload_n 0, 1) := by decide +kernel
theorem dX4_next_77 : decode cX4_next 77 = .ok (.iconst 0, 1) := by decide +kernel
theorem dX4_next_78 : decode cX4_next 78 = .ok (.putfield 46, 3) := by decide +kernel
theorem dX4_next_81 : decode cX4_next 81 = .ok (.goto 124, 3) := by decide +kernel
theorem dX4_next_84 : decode cX4_next 84 = .ok (.aload_n 0, 1) := by decide +kernel
theorem dX4_next_85 : decode cX4_next 85 = .ok (.getfield 9, 3) := by decide +kernel
theorem dX4_next_88 : decode cX4_next 88 = .ok (.aload_n 0, 1) := by decide +kernel
theorem dX4_next_89 : decode cX4_next 89 = .ok (.getfield 34, 3) := by decide +kernel
theorem dX4_next_92 : decode cX4_next 92 = .ok (.baload, 1) := by decide +kernel
theorem dX4_next_93 : decode cX4_next 93 = .ok (.bipush 97, 2) := by decide +kernel
theorem dX4_next_95 : decode cX4_next 95 = .ok (.if_icmp .lt 24, 3) := by decide +kernel
theorem dX4_next_98 : decode cX4_next 98 = .ok (.aload_n 0, 1) := by decide +kernel
theorem dX4_next_99 : decode cX4_next 99 = .ok (.getfield 9, 3) := by decide +kernel
theorem dX4_next_102 : decode cX4_next 102 = .ok (.aload_n 0, 1) := by decide +kernel
theorem dX4_next_103 : decode cX4_next 103 = .ok (.getfield 34, 3) := by decide +kernel
theorem dX4_next_106 : decode cX4_next 106 = .ok (.baload, 1) := by decide +kernel
theorem dX4_next_107 : decode cX4_next 107 = .ok (.bipush 122, 2) := by decide +kernel
theorem dX4_next_109 : decode cX4_next 109 = .ok (.if_icmp .gt 10, 3) := by decide +kernel
theorem dX4_next_112 : decode cX4_next 112 = .ok (.aload_n 0, 1) := by decide +kernel
theorem dX4_next_113 : decode cX4_next 113 = .ok (.invokevirtual 49, 3) := by decide +kernel
theorem dX4_next_116 : decode cX4_next 116 = .ok (.goto 89, 3) := by decide +kernel
theorem dX4_next_119 : decode cX4_next 119 = .ok (.aload_n 0, 1) := by decide +kernel
theorem dX4_next_120 : decode cX4_next 120 = .ok (.getfield 9, 3) := by decide +kernel
theorem dX4_next_123 : decode cX4_next 123 = .ok (.aload_n 0, 1) := by decide +kernel
theorem dX4_next_124 : decode cX4_next 124 = .ok (.getfield 34, 3) := by decide +kernel
theorem dX4_next_127 : decode cX4_next 127 = .ok (.baload, 1) := by decide +kernel
theorem dX4_next_128 : decode cX4_next 128 = .ok (.bipush 48, 2) := by decide +kernel
theorem dX4_next_130 : decode cX4_next 130 = .ok (.if_icmp .lt 24, 3) := by decide +kernel
theorem dX4_next_133 : decode cX4_next 133 = .ok (.aload_n 0, 1) := by decide +kernel
theorem dX4_next_134 : decode cX4_next 134 = .ok (.getfield 9, 3) := by decide +kernel
theorem dX4_next_137 : decode cX4_next 137 = .ok (.aload_n 0, 1) := by decide +kernel
theorem dX4_next_138 : decode cX4_next 138 = .ok (.getfield 34, 3) := by decide +kernel
theorem dX4_next_141 : decode cX4_next 141 = .ok (.baload, 1) := by decide +kernel
theorem dX4_next_142 : decode cX4_next 142 = .ok (.bipush 57, 2) := by decide +kernel
theorem dX4_next_144 : decode cX4_next 144 = .ok (.if_icmp .gt 10, 3) := by decide +kernel
theorem dX4_next_147 : decode cX4_next 147 = .ok (.aload_n 0, 1) := by decide +kernel
theorem dX4_next_148 : decode cX4_next 148 = .ok (.invokevirtual 52, 3) := by decide +kernel
theorem dX4_next_151 : decode cX4_next 151 = .ok (.goto 54, 3) := by decide +kernel
theorem dX4_next_154 : decode cX4_next 154 = .ok (.aload_n 0, 1) := by decide +kernel
theorem dX4_next_155 : decode cX4_next 155 = .ok (.getfield 9, 3) := by decide +kernel
theorem dX4_next_158 : decode cX4_next 158 = .ok (.aload_n 0, 1) := by decide +kernel
theorem dX4_next_159 : decode cX4_next 159 = .ok (.getfield 34, 3) := by decide +kernel
theorem dX4_next_162 : decode cX4_next 162 = .ok (.baload, 1) := by decide +kernel
theorem dX4_next_163 : decode cX4_next 163 = .ok (.invokestatic 55, 3) := by decide +kernel
theorem dX4_next_166 : decode cX4_next 166 = .ok (.ifCond .eq 34, 3) := by decide +kernel
theorem dX4_next_169 : decode cX4_next 169 = .ok (.aload_n 0, 1) := by decide +kernel
theorem dX4_next_170 : decode cX4_next 170 = .ok (.iconst 3, 1) := by decide +kernel
theorem dX4_next_171 : decode cX4_next 171 = .ok (.putfield 46, 3) := by decide +kernel
theorem dX4_next_174 : decode cX4_next 174 = .ok (.aload_n 0, 1) := by decide +kernel
theorem dX4_next_175 : decode cX4_next 175 = .ok (.aload_n 0, 1) := by decide +kernel
theorem dX4_next_176 : decode cX4_next 176 = .ok (.getfield 9, 3) := by decide +kernel
theorem dX4_next_179 : decode cX4_next 179 = .ok (.aload_n 0, 1) := by decide +kernel
theorem dX4_next_180 : decode cX4_next 180 = .ok (.getfield 34, 3) := by decide +kernel
theorem dX4_next_183 : decode cX4_next 183 = .ok (.baload, 1) := by decide +kernel
theorem dX4_next_184 : decode cX4_next 184 = .ok (.putfield 59, 3) := by decide +kernel
theorem dX4_next_187 : decode cX4_next 187 = .ok (.aload_n 0, 1) := by decide +kernel
theorem dX4_next_188 : decode cX4_next 188 = .ok (.dup, 1) := by decide +kernel
theorem dX4_next_189 : decode cX4_next 189 = .ok (.getfield 34, 3) := by decide +kernel
theorem dX4_next_192 : decode cX4_next 192 = .ok (.iconst 1, 1) := by decide +kernel
theorem dX4_next_193 : decode cX4_next 193 = .ok (.iadd, 1) := by decide +kernel
theorem dX4_next_194 : decode cX4_next 194 = .ok (.putfield 34, 3) := by decide +kernel
theorem dX4_next_197 : decode cX4_next 197 = .ok (.goto 8, 3) := by decide +kernel
theorem dX4_next_200 : decode cX4_next 200 = .ok (.aload_n 0, 1) := by decide +kernel
theorem dX4_next_201 : decode cX4_next 201 = .ok (.iconst 4, 1) := by decide +kernel
theorem dX4_next_202 : decode cX4_next 202 = .ok (.putfield 46, 3) := by decide +kernel
theorem dX4_next_205 : decode cX4_next 205 = .ok (.return_, 1) := by decide +kernel
noncomputable def fX4_next_j39 (rf : Nat → Nat → Nat) (a0 : Nat) (μ0 : o_Mem) : Option ((Nat × (Unit)) × o_Mem) :=
  o_seq (o_wI μ0 a0 5 ((μ0.1 a0 5) + 1)) fun μ1 =>
  some ((0, ()), μ1)
noncomputable def fX4_next_s0 (rf : Nat → Nat → Nat) (a0 : Nat) (τ0 : Unit) (μ0 : o_Mem) : Option ((Nat × (Unit)) × o_Mem) :=
  if (μ0.1 a0 4) ≤ (μ0.1 a0 5) then (
    some ((52, ()), μ0))
  else (
    o_ck (0 ≤ ((μ0.1 a0 5)).toInt ∧ ((μ0.1 a0 5)).toInt < 900) <|
    if (μ0.1 (rf a0 0) ((μ0.1 a0 5)).toNatClampNeg) = 10 then (
      fX4_next_j39 rf a0 μ0)
    else (
      o_ck (0 ≤ ((μ0.1 a0 5)).toInt ∧ ((μ0.1 a0 5)).toInt < 900) <|
      if (μ0.1 (rf a0 0) ((μ0.1 a0 5)).toNatClampNeg) = 32 then (
        fX4_next_j39 rf a0 μ0)
      else (
        some ((52, ()), μ0))))
noncomputable def fX4_next_j154 (rf : Nat → Nat → Nat) (a0 : Nat) (μ0 : o_Mem) : Option (Unit × o_Mem) :=
  o_ck (0 ≤ ((μ0.1 a0 5)).toInt ∧ ((μ0.1 a0 5)).toInt < 900) <|
  o_bd (fX4_isSign rf (μ0.1 (rf a0 0) ((μ0.1 a0 5)).toNatClampNeg) μ0) fun r1 μ1 =>
  if r1 = 0 then (
    o_seq (o_wI μ1 a0 7 4) fun μ2 =>
    some ((), μ2))
  else (
    o_seq (o_wI μ1 a0 7 3) fun μ3 =>
    o_ck (0 ≤ ((μ3.1 a0 5)).toInt ∧ ((μ3.1 a0 5)).toInt < 900) <|
    o_seq (o_wI μ3 a0 11 (μ3.1 (rf a0 0) ((μ3.1 a0 5)).toNatClampNeg)) fun μ4 =>
    o_seq (o_wI μ4 a0 5 ((μ4.1 a0 5) + 1)) fun μ5 =>
    some ((), μ5))
noncomputable def fX4_next_j119 (rf : Nat → Nat → Nat) (a0 : Nat) (μ0 : o_Mem) : Option (Unit × o_Mem) :=
  o_ck (0 ≤ ((μ0.1 a0 5)).toInt ∧ ((μ0.1 a0 5)).toInt < 900) <|
  if (μ0.1 (rf a0 0) ((μ0.1 a0 5)).toNatClampNeg) < 48 then (
    fX4_next_j154 rf a0 μ0)
  else (
    o_ck (0 ≤ ((μ0.1 a0 5)).toInt ∧ ((μ0.1 a0 5)).toInt < 900) <|
    if 57 < (μ0.1 (rf a0 0) ((μ0.1 a0 5)).toNatClampNeg) then (
      fX4_next_j154 rf a0 μ0)
    else (
      o_bd (fX4_readNumber rf a0 μ0) fun _u μ1 =>
      some ((), μ1)))
noncomputable def fX4_next_j52 (rf : Nat → Nat → Nat) (a0 : Nat) (μ0 : o_Mem) : Option (Unit × o_Mem) :=
  o_seq (o_wI μ0 a0 6 (μ0.1 a0 5)) fun μ1 =>
  o_seq (o_wI μ1 a0 8 (-1)) fun μ2 =>
  if (μ2.1 a0 5) < (μ2.1 a0 4) then (
    o_ck (0 ≤ ((μ2.1 a0 5)).toInt ∧ ((μ2.1 a0 5)).toInt < 900) <|
    if (μ2.1 (rf a0 0) ((μ2.1 a0 5)).toNatClampNeg) < 97 then (
      fX4_next_j119 rf a0 μ2)
    else (
      o_ck (0 ≤ ((μ2.1 a0 5)).toInt ∧ ((μ2.1 a0 5)).toInt < 900) <|
      if 122 < (μ2.1 (rf a0 0) ((μ2.1 a0 5)).toNatClampNeg) then (
        fX4_next_j119 rf a0 μ2)
      else (
        o_bd (fX4_readWord rf a0 μ2) fun _u μ3 =>
        some ((), μ3))))
  else (
    o_seq (o_wI μ2 a0 7 0) fun μ4 =>
    some ((), μ4))
noncomputable def fX4_next (rf : Nat → Nat → Nat) (a0 : Nat) (μ0 : o_Mem) : Option (Unit × o_Mem) :=
  o_bd (o_lp 0 (fX4_next_s0 rf a0) o_fuel () μ0) fun ex1 μ1 =>
  if ex1.1 = 52 then (
    fX4_next_j52 rf a0 μ1)
  else
    none
set_option maxRecDepth 20000 in
theorem dnX4_next_j39 {X : o_Cx} (hX : o_ok X) {d : Nat} {a0 : Nat} {μ0 : o_Mem} {K : (Nat × (Unit)) → o_Mem → Prop} {Q : Option Value → o_Mem → Prop} (h0 : o_is X a0 (.inl 4)) (h : o_Post (fX4_next_j39 (o_rf X) a0 μ0) K) (kh : ∀ (τ0 : Unit) (μ : o_Mem), K (0, τ0) μ → o_Ev X (d + 5) mX4_next 0 [some (.ref (o_ad X a0))] [] μ Q) (k52 : ∀ (τ0 : Unit) (μ : o_Mem), K (52, τ0) μ → o_Ev X (d + 5) mX4_next 52 [some (.ref (o_ad X a0))] [] μ Q) : o_Ev X (d + 5) mX4_next 39 [some (.ref (o_ad X a0))] [] μ0 Q := by
  unfold fX4_next_j39 at h
  refine s_aload_n (i := 0) dX4_next_39 rfl rfl ?_
  refine s_dup dX4_next_40 rfl ?_
  refine s_getI h0 flX4_34 rfl dX4_next_41 ?_
  refine s_iconst dX4_next_44 kI_1 ?_
  refine s_iadd dX4_next_45 ?_
  refine s_putI hX h0 fwX4_34 rfl dX4_next_46 (o_gen h (fun μ1 h => ?_))
  refine s_goto (tgt := 0) dX4_next_49 rfl ?_
  refine s_mask [true] (L' := [some (.ref (o_ad X a0))]) rfl ?_
  exact kh () _ (o_ret h)
set_option maxRecDepth 20000 in
theorem dnX4_next_s0 {X : o_Cx} (hX : o_ok X) {d : Nat} {a0 : Nat} {τ0 : Unit} {μ0 : o_Mem} {K : (Nat × (Unit)) → o_Mem → Prop} {Q : Option Value → o_Mem → Prop} (h0 : o_is X a0 (.inl 4)) (h : o_Post (fX4_next_s0 (o_rf X) a0 τ0 μ0) K) (kh : ∀ (τ0 : Unit) (μ : o_Mem), K (0, τ0) μ → o_Ev X (d + 5) mX4_next 0 [some (.ref (o_ad X a0))] [] μ Q) (k52 : ∀ (τ0 : Unit) (μ : o_Mem), K (52, τ0) μ → o_Ev X (d + 5) mX4_next 52 [some (.ref (o_ad X a0))] [] μ Q) : o_Ev X (d + 5) mX4_next 0 [some (.ref (o_ad X a0))] [] μ0 Q := by
  unfold fX4_next_s0 at h
  refine s_aload_n (i := 0) dX4_next_0 rfl rfl ?_
  refine s_getI h0 flX4_34 rfl dX4_next_1 ?_
  refine s_aload_n (i := 0) dX4_next_4 rfl rfl ?_
  refine s_getI h0 flX4_31 rfl dX4_next_5 ?_
  refine s_icmp_ge (tgt := 52) dX4_next_8 rfl (fun c1 => ?_) (fun c1 => ?_)
  · have h := o_if_t c1 h
    refine s_mask [true] (L' := [some (.ref (o_ad X a0))]) rfl ?_
    exact k52 () _ (o_ret h)
  · have h := o_if_f c1 h
    refine s_aload_n (i := 0) dX4_next_11 rfl rfl ?_
    refine s_getR hX h0 flX4_9 rfl dX4_next_12 (fun (g1 : o_is X (o_rf X a0 0) (.inr (1, 900))) => ?_)
    refine s_aload_n (i := 0) dX4_next_15 rfl rfl ?_
    refine s_getI h0 flX4_34 rfl dX4_next_16 ?_
    have hc := o_ck_c h
    have h := o_ck_k h
    refine s_baldK g1 hc rfl dX4_next_19 ?_
    refine s_bipush dX4_next_20 kB_10 ?_
    refine s_icmp_eq (tgt := 39) dX4_next_22 rfl (fun c1 => ?_) (fun c1 => ?_)
    · have h := o_if_t c1 h
      refine s_mask [true] (L' := [some (.ref (o_ad X a0))]) rfl ?_
      exact dnX4_next_j39 hX h0 h kh k52
    · have h := o_if_f c1 h
      refine s_aload_n (i := 0) dX4_next_25 rfl rfl ?_
      refine s_getR hX h0 flX4_9 rfl dX4_next_26 (fun (g2 : o_is X (o_rf X a0 0) (.inr (1, 900))) => ?_)
      refine s_aload_n (i := 0) dX4_next_29 rfl rfl ?_
      refine s_getI h0 flX4_34 rfl dX4_next_30 ?_
      have hc := o_ck_c h
      have h := o_ck_k h
      refine s_baldK g2 hc rfl dX4_next_33 ?_
      refine s_bipush dX4_next_34 kB_32 ?_
      refine s_icmp_ne (tgt := 52) dX4_next_36 rfl (fun c1 => ?_) (fun c1 => ?_)
      · have h := o_if_f c1 h
        refine s_mask [true] (L' := [some (.ref (o_ad X a0))]) rfl ?_
        exact k52 () _ (o_ret h)
      · have h := o_if_t c1 h
        refine s_mask [true] (L' := [some (.ref (o_ad X a0))]) rfl ?_
        exact dnX4_next_j39 hX h0 h kh k52
set_option maxRecDepth 20000 in
theorem dnX4_next_j154 {X : o_Cx} (hX : o_ok X) {d : Nat} {a0 : Nat} {μ0 : o_Mem} {q : Unit → o_Mem → Prop} (h0 : o_is X a0 (.inl 4)) (h : o_Post (fX4_next_j154 (o_rf X) a0 μ0) q) : o_Ev X (d + 5) mX4_next 154 [some (.ref (o_ad X a0))] [] μ0 (o_QU q) := by
  unfold fX4_next_j154 at h
  refine s_aload_n (i := 0) dX4_next_154 rfl rfl ?_
  refine s_getR hX h0 flX4_9 rfl dX4_next_155 (fun (g1 : o_is X (o_rf X a0 0) (.inr (1, 900))) => ?_)
  refine s_aload_n (i := 0) dX4_next_158 rfl rfl ?_
  refine s_getI h0 flX4_34 rfl dX4_next_159 ?_
  have hc := o_ck_c h
  have h := o_ck_k h
  refine s_baldK g1 hc rfl dX4_next_162 ?_
  refine s_callSz (C := mX4_isSign) (As := [.int (μ0.1 (o_rf X a0 0) ((μ0.1 a0 5)).toNatClampNeg)]) (rest := []) (L0 := [some (.int (μ0.1 (o_rf X a0 0) ((μ0.1 a0 5)).toNatClampNeg))]) clX4_55 dX4_next_163 rfl rfl (Nat.le_of_ble_eq_true rfl) (Nat.le_of_ble_eq_true rfl) (dnX4_isSign hX  (o_bdp h)) (fun r1 μ1 zr1 h => ?_)
  refine s_if_eq (tgt := 200) dX4_next_166 rfl (fun c1 => ?_) (fun c1 => ?_)
  · have h := o_if_t c1 h
    refine s_aload_n (i := 0) dX4_next_200 rfl rfl ?_
    refine s_iconst dX4_next_201 kI_4 ?_
    refine s_putI hX h0 fwX4_46 rfl dX4_next_202 (o_gen h (fun μ2 h => ?_))
    exact s_return rfl dX4_next_205 ⟨rfl, o_ret h⟩
  · have h := o_if_f c1 h
    refine s_aload_n (i := 0) dX4_next_169 rfl rfl ?_
    refine s_iconst dX4_next_170 kI_3 ?_
    refine s_putI hX h0 fwX4_46 rfl dX4_next_171 (o_gen h (fun μ3 h => ?_))
    refine s_aload_n (i := 0) dX4_next_174 rfl rfl ?_
    refine s_aload_n (i := 0) dX4_next_175 rfl rfl ?_
    refine s_getR hX h0 flX4_9 rfl dX4_next_176 (fun (g2 : o_is X (o_rf X a0 0) (.inr (1, 900))) => ?_)
    refine s_aload_n (i := 0) dX4_next_179 rfl rfl ?_
    refine s_getI h0 flX4_34 rfl dX4_next_180 ?_
    have hc := o_ck_c h
    have h := o_ck_k h
    refine s_baldK g2 hc rfl dX4_next_183 ?_
    refine s_putI hX h0 fwX4_59 rfl dX4_next_184 (o_gen h (fun μ4 h => ?_))
    refine s_aload_n (i := 0) dX4_next_187 rfl rfl ?_
    refine s_dup dX4_next_188 rfl ?_
    refine s_getI h0 flX4_34 rfl dX4_next_189 ?_
    refine s_iconst dX4_next_192 kI_1 ?_
    refine s_iadd dX4_next_193 ?_
    refine s_putI hX h0 fwX4_34 rfl dX4_next_194 (o_gen h (fun μ5 h => ?_))
    refine s_goto (tgt := 205) dX4_next_197 rfl ?_
    exact s_return rfl dX4_next_205 ⟨rfl, o_ret h⟩
set_option maxRecDepth 20000 in
theorem dnX4_next_j119 {X : o_Cx} (hX : o_ok X) {d : Nat} {a0 : Nat} {μ0 : o_Mem} {q : Unit → o_Mem → Prop} (h0 : o_is X a0 (.inl 4)) (h : o_Post (fX4_next_j119 (o_rf X) a0 μ0) q) : o_Ev X (d + 5) mX4_next 119 [some (.ref (o_ad X a0))] [] μ0 (o_QU q) := by
  unfold fX4_next_j119 at h
  refine s_aload_n (i := 0) dX4_next_119 rfl rfl ?_
  refine s_getR hX h0 flX4_9 rfl dX4_next_120 (fun (g1 : o_is X (o_rf X a0 0) (.inr (1, 900))) => ?_)
  refine s_aload_n (i := 0) dX4_next_123 rfl rfl ?_
  refine s_getI h0 flX4_34 rfl dX4_next_124 ?_
  have hc := o_ck_c h
  have h := o_ck_k h
  refine s_baldK g1 hc rfl dX4_next_127 ?_
  refine s_bipush dX4_next_128 kB_48 ?_
  refine s_icmp_lt (tgt := 154) dX4_next_130 rfl (fun c1 => ?_) (fun c1 => ?_)
  · have h := o_if_t c1 h
    refine s_mask [true] (L' := [some (.ref (o_ad X a0))]) rfl ?_
    exact dnX4_next_j154 hX h0 h
  · have h := o_if_f c1 h
    refine s_aload_n (i := 0) dX4_next_133 rfl rfl ?_
    refine s_getR hX h0 flX4_9 rfl dX4_next_134 (fun (g2 : o_is X (o_rf X a0 0) (.inr (1, 900))) => ?_)
    refine s_aload_n (i := 0) dX4_next_137 rfl rfl ?_
    refine s_getI h0 flX4_34 rfl dX4_next_138 ?_
    have hc := o_ck_c h
    have h := o_ck_k h
    refine s_baldK g2 hc rfl dX4_next_141 ?_
    refine s_bipush dX4_next_142 kB_57 ?_
    refine s_icmp_gt (tgt := 154) dX4_next_144 rfl (fun c1 => ?_) (fun c1 => ?_)
    · have h := o_if_t c1 h
      refine s_mask [true] (L' := [some (.ref (o_ad X a0))]) rfl ?_
      exact dnX4_next_j154 hX h0 h
    · have h := o_if_f c1 h
      refine s_aload_n (i := 0) dX4_next_147 rfl rfl ?_
      refine s_callVu (C := mX4_readNumber) (As := []) (rest := []) (L0 := [some (.ref (o_ad X a0))]) hX h0 clX4_52 dX4_next_148 rfl rfl (Nat.le_of_ble_eq_true rfl) (Nat.le_of_ble_eq_true rfl) (dnX4_readNumber hX h0 (o_bdp h)) (fun _u μ1 h => ?_)
      refine s_goto (tgt := 205) dX4_next_151 rfl ?_
      exact s_return rfl dX4_next_205 ⟨rfl, o_ret h⟩
set_option maxRecDepth 20000 in
theorem dnX4_next_j52 {X : o_Cx} (hX : o_ok X) {d : Nat} {a0 : Nat} {μ0 : o_Mem} {q : Unit → o_Mem → Prop} (h0 : o_is X a0 (.inl 4)) (h : o_Post (fX4_next_j52 (o_rf X) a0 μ0) q) : o_Ev X (d + 5) mX4_next 52 [some (.ref (o_ad X a0))] [] μ0 (o_QU q) := by
  unfold fX4_next_j52 at h
  refine s_aload_n (i := 0) dX4_next_52 rfl rfl ?_
  refine s_aload_n (i := 0) dX4_next_53 rfl rfl ?_
  refine s_getI h0 flX4_34 rfl dX4_next_54 ?_
  refine s_putI hX h0 fwX4_40 rfl dX4_next_57 (o_gen h (fun μ1 h => ?_))
  refine s_aload_n (i := 0) dX4_next_60 rfl rfl ?_
  refine s_iconst dX4_next_61 kI_m1 ?_
  refine s_putI hX h0 fwX4_43 rfl dX4_next_62 (o_gen h (fun μ2 h => ?_))
  refine s_aload_n (i := 0) dX4_next_65 rfl rfl ?_
  refine s_getI h0 flX4_34 rfl dX4_next_66 ?_
  refine s_aload_n (i := 0) dX4_next_69 rfl rfl ?_
  refine s_getI h0 flX4_31 rfl dX4_next_70 ?_
  refine s_icmp_lt (tgt := 84) dX4_next_73 rfl (fun c1 => ?_) (fun c1 => ?_)
  · have h := o_if_t c1 h
    refine s_aload_n (i := 0) dX4_next_84 rfl rfl ?_
    refine s_getR hX h0 flX4_9 rfl dX4_next_85 (fun (g1 : o_is X (o_rf X a0 0) (.inr (1, 900))) => ?_)
    refine s_aload_n (i := 0) dX4_next_88 rfl rfl ?_
    refine s_getI h0 flX4_34 rfl dX4_next_89 ?_
    have hc := o_ck_c h
    have h := o_ck_k h
    refine s_baldK g1 hc rfl dX4_next_92 ?_
    refine s_bipush dX4_next_93 kB_97 ?_
    refine s_icmp_lt (tgt := 119) dX4_next_95 rfl (fun c1 => ?_) (fun c1 => ?_)
    · have h := o_if_t c1 h
      refine s_mask [true] (L' := [some (.ref (o_ad X a0))]) rfl ?_
      exact dnX4_next_j119 hX h0 h
    · have h := o_if_f c1 h
      refine s_aload_n (i := 0) dX4_next_98 rfl rfl ?_
      refine s_getR hX h0 flX4_9 rfl dX4_next_99 (fun (g2 : o_is X (o_rf X a0 0) (.inr (1, 900))) => ?_)
      refine s_aload_n (i := 0) dX4_next_102 rfl rfl ?_
      refine s_getI h0 flX4_34 rfl dX4_next_103 ?_
      have hc := o_ck_c h
      have h := o_ck_k h
      refine s_baldK g2 hc rfl dX4_next_106 ?_
      refine s_bipush dX4_next_107 kB_122 ?_
      refine s_icmp_gt (tgt := 119) dX4_next_109 rfl (fun c1 => ?_) (fun c1 => ?_)
      · have h := o_if_t c1 h
        refine s_mask [true] (L' := [some (.ref (o_ad X a0))]) rfl ?_
        exact dnX4_next_j119 hX h0 h
      · have h := o_if_f c1 h
        refine s_aload_n (i := 0) dX4_next_112 rfl rfl ?_
        refine s_callVu (C := mX4_readWord) (As := []) (rest := []) (L0 := [some (.ref (o_ad X a0)), none, none, none, none, none]) hX h0 clX4_49 dX4_next_113 rfl rfl (Nat.le_of_ble_eq_true rfl) (Nat.le_of_ble_eq_true rfl) (dnX4_readWord hX h0 (o_bdp h)) (fun _u μ3 h => ?_)
        refine s_goto (tgt := 205) dX4_next_116 rfl ?_
        exact s_return rfl dX4_next_205 ⟨rfl, o_ret h⟩
  · have h := o_if_f c1 h
    refine s_aload_n (i := 0) dX4_next_76 rfl rfl ?_
    refine s_iconst dX4_next_77 kI_0 ?_
    refine s_putI hX h0 fwX4_46 rfl dX4_next_78 (o_gen h (fun μ4 h => ?_))
    refine s_goto (tgt := 205) dX4_next_81 rfl ?_
    exact s_return rfl dX4_next_205 ⟨rfl, o_ret h⟩
set_option maxRecDepth 20000 in
theorem dnX4_next {X : o_Cx} (hX : o_ok X) {d : Nat} {a0 : Nat} {μ0 : o_Mem} {q : Unit → o_Mem → Prop} (h0 : o_is X a0 (.inl 4)) (h : o_Post (fX4_next (o_rf X) a0 μ0) q) : o_Ev X (d + 5) mX4_next 0 [some (.ref (o_ad X a0))] [] μ0 (o_QU q) := by
  unfold fX4_next at h
  refine s_mask [true] (L' := [some (.ref (o_ad X a0))]) rfl ?_
  refine o_lp_ev (fun τ0 => [some (.ref (o_ad X a0))]) (fun τ0 μ _K h kv ke0 => dnX4_next_s0 hX h0 h kv (fun τ0 μ1 h => ?_)) o_fuel () μ0 (o_bdp h)
  · have h := o_if_t rfl (ke0 (52, τ0) μ1 (o_ne rfl) h)
    refine s_mask [true] (L' := [some (.ref (o_ad X a0))]) rfl ?_
    exact dnX4_next_j52 hX h0 h
theorem dX4_begin_0 : decode cX4_begin 0 = .ok (.aload_n 0, 1) := by decide +kernel
theorem dX4_begin_1 : decode cX4_begin 1 = .ok (.iload_n 1, 1) := by decide +kernel
theorem dX4_begin_2 : decode cX4_begin 2 = .ok (.aload_n 0, 1) := by decide +kernel
theorem dX4_begin_3 : decode cX4_begin 3 = .ok (.getfield 22, 3) := by decide +kernel
theorem dX4_begin_6 : decode cX4_begin 6 = .ok (.invokestatic 25, 3) := by decide +kernel
theorem dX4_begin_9 : decode cX4_begin 9 = .ok (.putfield 31, 3) := by decide +kernel
theorem dX4_begin_12 : decode cX4_begin 12 = .ok (.aload_n 0, 1) := by decide +kernel
theorem dX4_begin_13 : decode cX4_begin 13 = .ok (.iconst 0, 1) := by decide +kernel
theorem dX4_begin_14 : decode cX4_begin 14 = .ok (.putfield 22, 3) := by decide +kernel
theorem dX4_begin_17 : decode cX4_begin 17 = .ok (.aload_n 0, 1) := by decide +kernel
theorem dX4_begin_18 : decode cX4_begin 18 = .ok (.iconst 0, 1) := by decide +kernel
theorem dX4_begin_19 : decode cX4_begin 19 = .ok (.putfield 34, 3) := by decide +kernel
theorem dX4_begin_22 : decode cX4_begin 22 = .ok (.aload_n 0, 1) := by decide +kernel
theorem dX4_begin_23 : decode cX4_begin 23 = .ok (.iconst 0, 1) := by decide +kernel
theorem dX4_begin_24 : decode cX4_begin 24 = .ok (.putfield 15, 3) := by decide +kernel
theorem dX4_begin_27 : decode cX4_begin 27 = .ok (.aload_n 0, 1) := by decide +kernel
theorem dX4_begin_28 : decode cX4_begin 28 = .ok (.iconst (-1), 1) := by decide +kernel
theorem dX4_begin_29 : decode cX4_begin 29 = .ok (.putfield 19, 3) := by decide +kernel
theorem dX4_begin_32 : decode cX4_begin 32 = .ok (.aload_n 0, 1) := by decide +kernel
theorem dX4_begin_33 : decode cX4_begin 33 = .ok (.invokevirtual 37, 3) := by decide +kernel
theorem dX4_begin_36 : decode cX4_begin 36 = .ok (.return_, 1) := by decide +kernel
noncomputable def fX4_begin (rf : Nat → Nat → Nat) (a0 : Nat) (x1 : Int32) (μ0 : o_Mem) : Option (Unit × o_Mem) :=
  o_seq (o_wI μ0 a0 4 (if x1 > (μ0.1 a0 1) then (μ0.1 a0 1) else x1)) fun μ1 =>
  o_seq (o_wI μ1 a0 1 0) fun μ2 =>
  o_seq (o_wI μ2 a0 5 0) fun μ3 =>
  o_seq (o_wI μ3 a0 2 0) fun μ4 =>
  o_seq (o_wI μ4 a0 3 (-1)) fun μ5 =>
  o_bd (fX4_next rf a0 μ5) fun _u μ6 =>
  some ((), μ6)
set_option maxRecDepth 20000 in
theorem dnX4_begin {X : o_Cx} (hX : o_ok X) {d : Nat} {a0 : Nat} {x1 : Int32} {μ0 : o_Mem} {q : Unit → o_Mem → Prop} (h0 : o_is X a0 (.inl 4)) (h : o_Post (fX4_begin (o_rf X) a0 x1 μ0) q) : o_Ev X (d + 6) mX4_begin 0 [some (.ref (o_ad X a0)), some (.int x1)] [] μ0 (o_QU q) := by
  unfold fX4_begin at h
  refine s_aload_n (i := 0) dX4_begin_0 rfl rfl ?_
  refine s_iload_n (i := 1) dX4_begin_1 rfl rfl ?_
  refine s_aload_n (i := 0) dX4_begin_2 rfl rfl ?_
  refine s_getI h0 flX4_22 rfl dX4_begin_3 ?_
  refine s_min mlX4_25 mst_min mini mco_min (Nat.le_of_ble_eq_true rfl) dX4_begin_6 ?_
  refine s_putI hX h0 fwX4_31 rfl dX4_begin_9 (o_gen h (fun μ1 h => ?_))
  refine s_aload_n (i := 0) dX4_begin_12 rfl rfl ?_
  refine s_iconst dX4_begin_13 kI_0 ?_
  refine s_putI hX h0 fwX4_22 rfl dX4_begin_14 (o_gen h (fun μ2 h => ?_))
  refine s_aload_n (i := 0) dX4_begin_17 rfl rfl ?_
  refine s_iconst dX4_begin_18 kI_0 ?_
  refine s_putI hX h0 fwX4_34 rfl dX4_begin_19 (o_gen h (fun μ3 h => ?_))
  refine s_aload_n (i := 0) dX4_begin_22 rfl rfl ?_
  refine s_iconst dX4_begin_23 kI_0 ?_
  refine s_putI hX h0 fwX4_15 rfl dX4_begin_24 (o_gen h (fun μ4 h => ?_))
  refine s_aload_n (i := 0) dX4_begin_27 rfl rfl ?_
  refine s_iconst dX4_begin_28 kI_m1 ?_
  refine s_putI hX h0 fwX4_19 rfl dX4_begin_29 (o_gen h (fun μ5 h => ?_))
  refine s_aload_n (i := 0) dX4_begin_32 rfl rfl ?_
  refine s_callVu (C := mX4_next) (As := []) (rest := []) (L0 := [some (.ref (o_ad X a0))]) hX h0 clX4_37 dX4_begin_33 rfl rfl (Nat.le_of_ble_eq_true rfl) (Nat.le_of_ble_eq_true rfl) (dnX4_next hX h0 (o_bdp h)) (fun _u μ6 h => ?_)
  exact s_return rfl dX4_begin_36 ⟨rfl, o_ret h⟩
theorem dX4_fail_0 : decode cX4_fail 0 = .ok (.aload_n 0, 1) := by decide +kernel
theorem dX4_fail_1 : decode cX4_fail 1 = .ok (.aload_n 0, 1) := by decide +kernel
theorem dX4_fail_2 : decode cX4_fail 2 = .ok (.getfield 46, 3) := by decide +kernel
theorem dX4_fail_5 : decode cX4_fail 5 = .ok (.iconst 4, 1) := by decide +kernel
theorem dX4_fail_6 : decode cX4_fail 6 = .ok (.if_icmp .ne 7, 3) := by decide +kernel
theorem dX4_fail_9 : decode cX4_fail 9 = .ok (.iconst 1, 1) := by decide +kernel
theorem dX4_fail_10 : decode cX4_fail 10 = .ok (.goto 4, 3) := by decide +kernel
theorem dX4_fail_13 : decode cX4_fail 13 = .ok (.iload_n 1, 1) := by decide +kernel
theorem dX4_fail_14 : decode cX4_fail 14 = .ok (.putfield 15, 3) := by decide +kernel
theorem dX4_fail_17 : decode cX4_fail 17 = .ok (.aload_n 0, 1) := by decide +kernel
theorem dX4_fail_18 : decode cX4_fail 18 = .ok (.aload_n 0, 1) := by decide +kernel
theorem dX4_fail_19 : decode cX4_fail 19 = .ok (.getfield 40, 3) := by decide +kernel
theorem dX4_fail_22 : decode cX4_fail 22 = .ok (.putfield 19, 3) := by decide +kernel
theorem dX4_fail_25 : decode cX4_fail 25 = .ok (.iconst 0, 1) := by decide +kernel
theorem dX4_fail_26 : decode cX4_fail 26 = .ok (.ireturn, 1) := by decide +kernel
noncomputable def fX4_fail_j14 (rf : Nat → Nat → Nat) (a0 : Nat) (b0 : Nat) (y1 : Int32) (μ0 : o_Mem) : Option (Int32 × o_Mem) :=
  o_seq (o_wI μ0 b0 2 y1) fun μ1 =>
  o_seq (o_wI μ1 a0 3 (μ1.1 a0 6)) fun μ2 =>
  some (0, μ2)
noncomputable def fX4_fail (rf : Nat → Nat → Nat) (a0 : Nat) (x1 : Int32) (μ0 : o_Mem) : Option (Int32 × o_Mem) :=
  if (μ0.1 a0 7) = 4 then (
    fX4_fail_j14 rf a0 a0 1 μ0)
  else (
    fX4_fail_j14 rf a0 a0 x1 μ0)
set_option maxRecDepth 20000 in
theorem dnX4_fail_j14 {X : o_Cx} (hX : o_ok X) {d : Nat} {a0 : Nat} {b0 : Nat} {y1 : Int32} {μ0 : o_Mem} {q : Int32 → o_Mem → Prop} (h0 : o_is X a0 (.inl 4)) (hb0 : o_is X b0 (.inl 4)) (h : o_Post (fX4_fail_j14 (o_rf X) a0 b0 y1 μ0) q) : o_Ev X (d + 0) mX4_fail 14 [some (.ref (o_ad X a0)), none] [.int y1, .ref (o_ad X b0)] μ0 (o_QZ q) := by
  unfold fX4_fail_j14 at h
  refine s_putI hX hb0 fwX4_15 rfl dX4_fail_14 (o_gen h (fun μ1 h => ?_))
  refine s_aload_n (i := 0) dX4_fail_17 rfl rfl ?_
  refine s_aload_n (i := 0) dX4_fail_18 rfl rfl ?_
  refine s_getI h0 flX4_40 rfl dX4_fail_19 ?_
  refine s_putI hX h0 fwX4_19 rfl dX4_fail_22 (o_gen h (fun μ2 h => ?_))
  refine s_iconst dX4_fail_25 kI_0 ?_
  exact s_zreturn rfl (Or.inl rfl) dX4_fail_26 ⟨_, rfl, (Or.inl rfl), o_ret h⟩
set_option maxRecDepth 20000 in
theorem dnX4_fail {X : o_Cx} (hX : o_ok X) {d : Nat} {a0 : Nat} {x1 : Int32} {μ0 : o_Mem} {q : Int32 → o_Mem → Prop} (h0 : o_is X a0 (.inl 4)) (h : o_Post (fX4_fail (o_rf X) a0 x1 μ0) q) : o_Ev X (d + 0) mX4_fail 0 [some (.ref (o_ad X a0)), some (.int x1)] [] μ0 (o_QZ q) := by
  unfold fX4_fail at h
  refine s_aload_n (i := 0) dX4_fail_0 rfl rfl ?_
  refine s_aload_n (i := 0) dX4_fail_1 rfl rfl ?_
  refine s_getI h0 flX4_46 rfl dX4_fail_2 ?_
  refine s_iconst dX4_fail_5 kI_4 ?_
  refine s_icmp_ne (tgt := 13) dX4_fail_6 rfl (fun c1 => ?_) (fun c1 => ?_)
  · have h := o_if_f c1 h
    refine s_iload_n (i := 1) dX4_fail_13 rfl rfl ?_
    refine s_mask [true, false] (L' := [some (.ref (o_ad X a0)), none]) rfl ?_
    exact dnX4_fail_j14 hX h0 h0 h
  · have h := o_if_t c1 h
    refine s_iconst dX4_fail_9 kI_1 ?_
    refine s_goto (tgt := 14) dX4_fail_10 rfl ?_
    refine s_mask [true, false] (L' := [some (.ref (o_ad X a0)), none]) rfl ?_
    exact dnX4_fail_j14 hX h0 h0 h
theorem dX4_wantWord_0 : decode cX4_wantWord 0 = .ok (.aload_n 0, 1) := by decide +kernel
theorem dX4_wantWord_1 : decode cX4_wantWord 1 = .ok (.getfield 43, 3) := by decide +kernel
theorem dX4_wantWord_4 : decode cX4_wantWord 4 = .ok (.iload_n 1, 1) := by decide +kernel
theorem dX4_wantWord_5 : decode cX4_wantWord 5 = .ok (.if_icmp .eq 9, 3) := by decide +kernel
theorem dX4_wantWord_8 : decode cX4_wantWord 8 = .ok (.aload_n 0, 1) := by decide +kernel
theorem dX4_wantWord_9 : decode cX4_wantWord 9 = .ok (.iconst 2, 1) := by decide +kernel
theorem dX4_wantWord_10 : decode cX4_wantWord 10 = .ok (.invokevirtual 84, 3) := by decide +kernel
theorem dX4_wantWord_13 : decode cX4_wantWord 13 = .ok (.ireturn, 1) := by decide +kernel
theorem dX4_wantWord_14 : decode cX4_wantWord 14 = .ok (.aload_n 0, 1) := by decide +kernel
theorem dX4_wantWord_15 : decode cX4_wantWord 15 = .ok (.invokevirtual 37, 3) := by decide +kernel
theorem dX4_wantWord_18 : decode cX4_wantWord 18 = .ok (.iconst 1, 1) := by decide +kernel
theorem dX4_wantWord_19 : decode cX4_wantWord 19 = .ok (.ireturn, 1) := by decide +kernel
noncomputable def fX4_wantWord (rf : Nat → Nat → Nat) (a0 : Nat) (x1 : Int32) (μ0 : o_Mem) : Option (Int32 × o_Mem) :=
  if (μ0.1 a0 8) = x1 then (
    o_bd (fX4_next rf a0 μ0) fun _u μ1 =>
    some (1, μ1))
  else (
    o_bd (fX4_fail rf a0 2 μ0) fun r1 μ2 =>
    some (r1, μ2))
set_option maxRecDepth 20000 in
theorem dnX4_wantWord {X : o_Cx} (hX : o_ok X) {d : Nat} {a0 : Nat} {x1 : Int32} {μ0 : o_Mem} {q : Int32 → o_Mem → Prop} (h0 : o_is X a0 (.inl 4)) (h : o_Post (fX4_wantWord (o_rf X) a0 x1 μ0) q) : o_Ev X (d + 6) mX4_wantWord 0 [some (.ref (o_ad X a0)), some (.int x1)] [] μ0 (o_QZ q) := by
  unfold fX4_wantWord at h
  refine s_aload_n (i := 0) dX4_wantWord_0 rfl rfl ?_
  refine s_getI h0 flX4_43 rfl dX4_wantWord_1 ?_
  refine s_iload_n (i := 1) dX4_wantWord_4 rfl rfl ?_
  refine s_icmp_eq (tgt := 14) dX4_wantWord_5 rfl (fun c1 => ?_) (fun c1 => ?_)
  · have h := o_if_t c1 h
    refine s_aload_n (i := 0) dX4_wantWord_14 rfl rfl ?_
    refine s_callVu (C := mX4_next) (As := []) (rest := []) (L0 := [some (.ref (o_ad X a0))]) hX h0 clX4_37 dX4_wantWord_15 rfl rfl (Nat.le_of_ble_eq_true rfl) (Nat.le_of_ble_eq_true rfl) (dnX4_next hX h0 (o_bdp h)) (fun _u μ1 h => ?_)
    refine s_iconst dX4_wantWord_18 kI_1 ?_
    exact s_zreturn rfl (Or.inr rfl) dX4_wantWord_19 ⟨_, rfl, (Or.inr rfl), o_ret h⟩
  · have h := o_if_f c1 h
    refine s_aload_n (i := 0) dX4_wantWord_8 rfl rfl ?_
    refine s_iconst dX4_wantWord_9 kI_2 ?_
    refine s_callVz (C := mX4_fail) (As := [.int 2]) (rest := []) (L0 := [some (.ref (o_ad X a0)), some (.int 2)]) hX h0 clX4_84 dX4_wantWord_10 rfl rfl (Nat.le_of_ble_eq_true rfl) (Nat.le_of_ble_eq_true rfl) (dnX4_fail hX h0 (o_bdp h)) (fun r1 μ2 zr1 h => ?_)
    exact s_zreturn rfl zr1 dX4_wantWord_13 ⟨_, rfl, zr1, o_ret h⟩
theorem dX4_wantClose_0 : decode cX4_wantClose 0 = .ok (.aload_n 0, 1) := by decide +kernel
theorem dX4_wantClose_1 : decode cX4_wantClose 1 = .ok (.getfield 46, 3) := by decide +kernel
theorem dX4_wantClose_4 : decode cX4_wantClose 4 = .ok (.iconst 3, 1) := by decide +kernel
theorem dX4_wantClose_5 : decode cX4_wantClose 5 = .ok (.if_icmp .ne 12, 3) := by decide +kernel
theorem dX4_wantClose_8 : decode cX4_wantClose 8 = .ok (.aload_n 0, 1) := by decide +kernel
theorem dX4_wantClose_9 : decode cX4_wantClose 9 = .ok (.getfield 59, 3) := by decide +kernel
theorem dX4_wantClose_12 : decode cX4_wantClose 12 = .ok (.bipush 59, 2) := by decide +kernel
theorem dX4_wantClose_14 : decode cX4_wantClose 14 = .ok (.if_icmp .eq 9, 3) := by decide +kernel
theorem dX4_wantClose_17 : decode cX4_wantClose 17 = .ok (.aload_n 0, 1) := by decide +kernel
theorem dX4_wantClose_18 : decode cX4_wantClose 18 = .ok (.iconst 2, 1) := by decide +kernel
theorem dX4_wantClose_19 : decode cX4_wantClose 19 = .ok (.invokevirtual 84, 3) := by decide +kernel
theorem dX4_wantClose_22 : decode cX4_wantClose 22 = .ok (.ireturn, 1) := by decide +kernel
theorem dX4_wantClose_23 : decode cX4_wantClose 23 = .ok (.aload_n 0, 1) := by decide +kernel
theorem dX4_wantClose_24 : decode cX4_wantClose 24 = .ok (.invokevirtual 37, 3) := by decide +kernel
theorem dX4_wantClose_27 : decode cX4_wantClose 27 = .ok (.iconst 1, 1) := by decide +kernel
theorem dX4_wantClose_28 : decode cX4_wantClose 28 = .ok (.ireturn, 1) := by decide +kernel
noncomputable def fX4_wantClose_j17 (rf : Nat → Nat → Nat) (a0 : Nat) (μ0 : o_Mem) : Option (Int32 × o_Mem) :=
  o_bd (fX4_fail rf a0 2 μ0) fun r1 μ1 =>
  some (r1, μ1)
noncomputable def fX4_wantClose (rf : Nat → Nat → Nat) (a0 : Nat) (μ0 : o_Mem) : Option (Int32 × o_Mem) :=
  if (μ0.1 a0 7) = 3 then (
    if (μ0.1 a0 11) = 59 then (
      o_bd (fX4_next rf a0 μ0) fun _u μ1 =>
      some (1, μ1))
    else (
      fX4_wantClose_j17 rf a0 μ0))
  else (
    fX4_wantClose_j17 rf a0 μ0)
set_option maxRecDepth 20000 in
theorem dnX4_wantClose_j17 {X : o_Cx} (hX : o_ok X) {d : Nat} {a0 : Nat} {μ0 : o_Mem} {q : Int32 → o_Mem → Prop} (h0 : o_is X a0 (.inl 4)) (h : o_Post (fX4_wantClose_j17 (o_rf X) a0 μ0) q) : o_Ev X (d + 6) mX4_wantClose 17 [some (.ref (o_ad X a0))] [] μ0 (o_QZ q) := by
  unfold fX4_wantClose_j17 at h
  refine s_aload_n (i := 0) dX4_wantClose_17 rfl rfl ?_
  refine s_iconst dX4_wantClose_18 kI_2 ?_
  refine s_callVz (C := mX4_fail) (As := [.int 2]) (rest := []) (L0 := [some (.ref (o_ad X a0)), some (.int 2)]) hX h0 clX4_84 dX4_wantClose_19 rfl rfl (Nat.le_of_ble_eq_true rfl) (Nat.le_of_ble_eq_true rfl) (dnX4_fail hX h0 (o_bdp h)) (fun r1 μ1 zr1 h => ?_)
  exact s_zreturn rfl zr1 dX4_wantClose_22 ⟨_, rfl, zr1, o_ret h⟩
set_option maxRecDepth 20000 in
theorem dnX4_wantClose {X : o_Cx} (hX : o_ok X) {d : Nat} {a0 : Nat} {μ0 : o_Mem} {q : Int32 → o_Mem → Prop} (h0 : o_is X a0 (.inl 4)) (h : o_Post (fX4_wantClose (o_rf X) a0 μ0) q) : o_Ev X (d + 6) mX4_wantClose 0 [some (.ref (o_ad X a0))] [] μ0 (o_QZ q) := by
  unfold fX4_wantClose at h
  refine s_aload_n (i := 0) dX4_wantClose_0 rfl rfl ?_
  refine s_getI h0 flX4_46 rfl dX4_wantClose_1 ?_
  refine s_iconst dX4_wantClose_4 kI_3 ?_
  refine s_icmp_ne (tgt := 17) dX4_wantClose_5 rfl (fun c1 => ?_) (fun c1 => ?_)
  · have h := o_if_f c1 h
    refine s_mask [true] (L' := [some (.ref (o_ad X a0))]) rfl ?_
    exact dnX4_wantClose_j17 hX h0 h
  · have h := o_if_t c1 h
    refine s_aload_n (i := 0) dX4_wantClose_8 rfl rfl ?_
    refine s_getI h0 flX4_59 rfl dX4_wantClose_9 ?_
    refine s_bipush dX4_wantClose_12 kB_59 ?_
    refine s_icmp_eq (tgt := 23) dX4_wantClose_14 rfl (fun c1 => ?_) (fun c1 => ?_)
    · have h := o_if_t c1 h
      refine s_aload_n (i := 0) dX4_wantClose_23 rfl rfl ?_
      refine s_callVu (C := mX4_next) (As := []) (rest := []) (L0 := [some (.ref (o_ad X a0))]) hX h0 clX4_37 dX4_wantClose_24 rfl rfl (Nat.le_of_ble_eq_true rfl) (Nat.le_of_ble_eq_true rfl) (dnX4_next hX h0 (o_bdp h)) (fun _u μ1 h => ?_)
      refine s_iconst dX4_wantClose_27 kI_1 ?_
      exact s_zreturn rfl (Or.inr rfl) dX4_wantClose_28 ⟨_, rfl, (Or.inr rfl), o_ret h⟩
    · have h := o_if_f c1 h
      refine s_mask [true] (L' := [some (.ref (o_ad X a0))]) rfl ?_
      exact dnX4_wantClose_j17 hX h0 h
theorem dX4_wantNumber_0 : decode cX4_wantNumber 0 = .ok (.aload_n 0, 1) := by decide +kernel
theorem dX4_wantNumber_1 : decode cX4_wantNumber 1 = .ok (.getfield 46, 3) := by decide +kernel
theorem dX4_wantNumber_4 : decode cX4_wantNumber 4 = .ok (.iconst 2, 1) := by decide +kernel
theorem dX4_wantNumber_5 : decode cX4_wantNumber 5 = .ok (.if_icmp .ne 19, 3) := by decide +kernel
theorem dX4_wantNumber_8 : decode cX4_wantNumber 8 = .ok (.aload_n 0, 1) := by decide +kernel
theorem dX4_wantNumber_9 : decode cX4_wantNumber 9 = .ok (.getfield 81, 3) := by decide +kernel
theorem dX4_wantNumber_12 : decode cX4_wantNumber 12 = .ok (.iload_n 1, 1) := by decide +kernel
theorem dX4_wantNumber_13 : decode cX4_wantNumber 13 = .ok (.if_icmp .lt 11, 3) := by decide +kernel
theorem dX4_wantNumber_16 : decode cX4_wantNumber 16 = .ok (.aload_n 0, 1) := by decide +kernel
theorem dX4_wantNumber_17 : decode cX4_wantNumber 17 = .ok (.getfield 81, 3) := by decide +kernel
theorem dX4_wantNumber_20 : decode cX4_wantNumber 20 = .ok (.iload_n 2, 1) := by decide +kernel
theorem dX4_wantNumber_21 : decode cX4_wantNumber 21 = .ok (.if_icmp .le 23, 3) := by decide +kernel
theorem dX4_wantNumber_24 : decode cX4_wantNumber 24 = .ok (.aload_n 0, 1) := by decide +kernel
theorem dX4_wantNumber_25 : decode cX4_wantNumber 25 = .ok (.aload_n 0, 1) := by decide +kernel
theorem dX4_wantNumber_26 : decode cX4_wantNumber 26 = .ok (.getfield 46, 3) := by decide +kernel
theorem dX4_wantNumber_29 : decode cX4_wantNumber 29 = .ok (.iconst 2, 1) := by decide +kernel
theorem dX4_wantNumber_30 : decode cX4_wantNumber 30 = .ok (.if_icmp .ne 7, 3) := by decide +kernel
theorem dX4_wantNumber_33 : decode cX4_wantNumber 33 = .ok (.iconst 4, 1) := by decide +kernel
theorem dX4_wantNumber_34 : decode cX4_wantNumber 34 = .ok (.goto 4, 3) := by decide +kernel
theorem dX4_wantNumber_37 : decode cX4_wantNumber 37 = .ok (.iconst 2, 1) := by decide +kernel
theorem dX4_wantNumber_38 : decode cX4_wantNumber 38 = .ok (.invokevirtual 84, 3) := by decide +kernel
theorem dX4_wantNumber_41 : decode cX4_wantNumber 41 = .ok (.pop, 1) := by decide +kernel
theorem dX4_wantNumber_42 : decode cX4_wantNumber 42 = .ok (.iconst (-1), 1) := by decide +kernel
theorem dX4_wantNumber_43 : decode cX4_wantNumber 43 = .ok (.ireturn, 1) := by decide +kernel
theorem dX4_wantNumber_44 : decode cX4_wantNumber 44 = .ok (.aload_n 0, 1) := by decide +kernel
theorem dX4_wantNumber_45 : decode cX4_wantNumber 45 = .ok (.getfield 81, 3) := by decide +kernel
theorem dX4_wantNumber_48 : decode cX4_wantNumber 48 = .ok (.istore_n 3, 1) := by decide +kernel
theorem dX4_wantNumber_49 : decode cX4_wantNumber 49 = .ok (.aload_n 0, 1) := by decide +kernel
theorem dX4_wantNumber_50 : decode cX4_wantNumber 50 = .ok (.invokevirtual 37, 3) := by decide +kernel
theorem dX4_wantNumber_53 : decode cX4_wantNumber 53 = .ok (.iload_n 3, 1) := by decide +kernel
theorem dX4_wantNumber_54 : decode cX4_wantNumber 54 = .ok (.ireturn, 1) := by decide +kernel
noncomputable def fX4_wantNumber_j38 (rf : Nat → Nat → Nat) (b0 : Nat) (y1 : Int32) (μ0 : o_Mem) : Option (Int32 × o_Mem) :=
  o_bd (fX4_fail rf b0 y1 μ0) fun r1 μ1 =>
  some ((-1), μ1)
noncomputable def fX4_wantNumber_j24 (rf : Nat → Nat → Nat) (a0 : Nat) (μ0 : o_Mem) : Option (Int32 × o_Mem) :=
  if (μ0.1 a0 7) = 2 then (
    fX4_wantNumber_j38 rf a0 4 μ0)
  else (
    fX4_wantNumber_j38 rf a0 2 μ0)
noncomputable def fX4_wantNumber (rf : Nat → Nat → Nat) (a0 : Nat) (x1 : Int32) (x2 : Int32) (μ0 : o_Mem) : Option (Int32 × o_Mem) :=
  if (μ0.1 a0 7) = 2 then (
    if (μ0.1 a0 10) < x1 then (
      fX4_wantNumber_j24 rf a0 μ0)
    else (
      if (μ0.1 a0 10) ≤ x2 then (
        o_bd (fX4_next rf a0 μ0) fun _u μ1 =>
        some ((μ0.1 a0 10), μ1))
      else (
        fX4_wantNumber_j24 rf a0 μ0)))
  else (
    fX4_wantNumber_j24 rf a0 μ0)
set_option maxRecDepth 20000 in
theorem dnX4_wantNumber_j38 {X : o_Cx} (hX : o_ok X) {d : Nat} {b0 : Nat} {y1 : Int32} {μ0 : o_Mem} {q : Int32 → o_Mem → Prop} (hb0 : o_is X b0 (.inl 4)) (h : o_Post (fX4_wantNumber_j38 (o_rf X) b0 y1 μ0) q) : o_Ev X (d + 6) mX4_wantNumber 38 [none, none, none, none] [.int y1, .ref (o_ad X b0)] μ0 (o_QI q) := by
  unfold fX4_wantNumber_j38 at h
  refine s_callVz (C := mX4_fail) (As := [.int y1]) (rest := []) (L0 := [some (.ref (o_ad X b0)), some (.int y1)]) hX hb0 clX4_84 dX4_wantNumber_38 rfl rfl (Nat.le_of_ble_eq_true rfl) (Nat.le_of_ble_eq_true rfl) (dnX4_fail hX hb0 (o_bdp h)) (fun r1 μ1 zr1 h => ?_)
  refine s_pop dX4_wantNumber_41 rfl ?_
  refine s_iconst dX4_wantNumber_42 kI_m1 ?_
  exact s_ireturn rfl dX4_wantNumber_43 ⟨_, rfl, o_ret h⟩
set_option maxRecDepth 20000 in
theorem dnX4_wantNumber_j24 {X : o_Cx} (hX : o_ok X) {d : Nat} {a0 : Nat} {μ0 : o_Mem} {q : Int32 → o_Mem → Prop} (h0 : o_is X a0 (.inl 4)) (h : o_Post (fX4_wantNumber_j24 (o_rf X) a0 μ0) q) : o_Ev X (d + 6) mX4_wantNumber 24 [some (.ref (o_ad X a0)), none, none, none] [] μ0 (o_QI q) := by
  unfold fX4_wantNumber_j24 at h
  refine s_aload_n (i := 0) dX4_wantNumber_24 rfl rfl ?_
  refine s_aload_n (i := 0) dX4_wantNumber_25 rfl rfl ?_
  refine s_getI h0 flX4_46 rfl dX4_wantNumber_26 ?_
  refine s_iconst dX4_wantNumber_29 kI_2 ?_
  refine s_icmp_ne (tgt := 37) dX4_wantNumber_30 rfl (fun c1 => ?_) (fun c1 => ?_)
  · have h := o_if_f c1 h
    refine s_iconst dX4_wantNumber_37 kI_2 ?_
    refine s_mask [false, false, false, false] (L' := [none, none, none, none]) rfl ?_
    exact dnX4_wantNumber_j38 hX h0 h
  · have h := o_if_t c1 h
    refine s_iconst dX4_wantNumber_33 kI_4 ?_
    refine s_goto (tgt := 38) dX4_wantNumber_34 rfl ?_
    refine s_mask [false, false, false, false] (L' := [none, none, none, none]) rfl ?_
    exact dnX4_wantNumber_j38 hX h0 h
set_option maxRecDepth 20000 in
theorem dnX4_wantNumber {X : o_Cx} (hX : o_ok X) {d : Nat} {a0 : Nat} {x1 : Int32} {x2 : Int32} {μ0 : o_Mem} {q : Int32 → o_Mem → Prop} (h0 : o_is X a0 (.inl 4)) (h : o_Post (fX4_wantNumber (o_rf X) a0 x1 x2 μ0) q) : o_Ev X (d + 6) mX4_wantNumber 0 [some (.ref (o_ad X a0)), some (.int x1), some (.int x2), none] [] μ0 (o_QI q) := by
  unfold fX4_wantNumber at h
  refine s_aload_n (i := 0) dX4_wantNumber_0 rfl rfl ?_
  refine s_getI h0 flX4_46 rfl dX4_wantNumber_1 ?_
  refine s_iconst dX4_wantNumber_4 kI_2 ?_
  refine s_icmp_ne (tgt := 24) dX4_wantNumber_5 rfl (fun c1 => ?_) (fun c1 => ?_)
  · have h := o_if_f c1 h
    refine s_mask [true, false, false, false] (L' := [some (.ref (o_ad X a0)), none, none, none]) rfl ?_
    exact dnX4_wantNumber_j24 hX h0 h
  · have h := o_if_t c1 h
    refine s_aload_n (i := 0) dX4_wantNumber_8 rfl rfl ?_
    refine s_getI h0 flX4_81 rfl dX4_wantNumber_9 ?_
    refine s_iload_n (i := 1) dX4_wantNumber_12 rfl rfl ?_
    refine s_icmp_lt (tgt := 24) dX4_wantNumber_13 rfl (fun c1 => ?_) (fun c1 => ?_)
    · have h := o_if_t c1 h
      refine s_mask [true, false, false, false] (L' := [some (.ref (o_ad X a0)), none, none, none]) rfl ?_
      exact dnX4_wantNumber_j24 hX h0 h
    · have h := o_if_f c1 h
      refine s_aload_n (i := 0) dX4_wantNumber_16 rfl rfl ?_
      refine s_getI h0 flX4_81 rfl dX4_wantNumber_17 ?_
      refine s_iload_n (i := 2) dX4_wantNumber_20 rfl rfl ?_
      refine s_icmp_le (tgt := 44) dX4_wantNumber_21 rfl (fun c1 => ?_) (fun c1 => ?_)
      · have h := o_if_t c1 h
        refine s_aload_n (i := 0) dX4_wantNumber_44 rfl rfl ?_
        refine s_getI h0 flX4_81 rfl dX4_wantNumber_45 ?_
        refine s_istore_n (i := 3) dX4_wantNumber_48 rfl (Nat.le_of_ble_eq_true rfl) rfl ?_
        refine s_aload_n (i := 0) dX4_wantNumber_49 rfl rfl ?_
        refine s_callVu (C := mX4_next) (As := []) (rest := []) (L0 := [some (.ref (o_ad X a0))]) hX h0 clX4_37 dX4_wantNumber_50 rfl rfl (Nat.le_of_ble_eq_true rfl) (Nat.le_of_ble_eq_true rfl) (dnX4_next hX h0 (o_bdp h)) (fun _u μ1 h => ?_)
        refine s_iload_n (i := 3) dX4_wantNumber_53 rfl rfl ?_
        exact s_ireturn rfl dX4_wantNumber_54 ⟨_, rfl, o_ret h⟩
      · have h := o_if_f c1 h
        refine s_mask [true, false, false, false] (L' := [some (.ref (o_ad X a0)), none, none, none]) rfl ?_
        exact dnX4_wantNumber_j24 hX h0 h
