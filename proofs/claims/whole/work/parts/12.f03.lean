theorem dX4_hasSpace_0 : decode cX4_hasSpace 0 = .ok (.aload_n 0, 1) := by decide +kernel
theorem dX4_hasSpace_1 : decode cX4_hasSpace 1 = .ok (.getfield 22, 3) := by decide +kernel
theorem dX4_hasSpace_4 : decode cX4_hasSpace 4 = .ok (.bipush 20, 2) := by decide +kernel
theorem dX4_hasSpace_6 : decode cX4_hasSpace 6 = .ok (.iadd, 1) := by decide +kernel
theorem dX4_hasSpace_7 : decode cX4_hasSpace 7 = .ok (.sipush 900, 3) := by decide +kernel
theorem dX4_hasSpace_10 : decode cX4_hasSpace 10 = .ok (.if_icmp .gt 7, 3) := by decide +kernel
theorem dX4_hasSpace_13 : decode cX4_hasSpace 13 = .ok (.iconst 1, 1) := by decide +kernel
theorem dX4_hasSpace_14 : decode cX4_hasSpace 14 = .ok (.goto 4, 3) := by decide +kernel
theorem dX4_hasSpace_17 : decode cX4_hasSpace 17 = .ok (.iconst 0, 1) := by decide +kernel
theorem dX4_hasSpace_18 : decode cX4_hasSpace 18 = .ok (.ireturn, 1) := by decide +kernel
noncomputable def fX4_hasSpace (rf : Nat → Nat → Nat) (a0 : Nat) (μ0 : o_Mem) : Option (Int32 × o_Mem) :=
  if 900 < ((μ0.1 a0 1) + 20) then (
    some (0, μ0))
  else (
    some (1, μ0))
set_option maxRecDepth 20000 in
theorem dnX4_hasSpace {X : o_Cx} (hX : o_ok X) {d : Nat} {a0 : Nat} {μ0 : o_Mem} {q : Int32 → o_Mem → Prop} (h0 : o_is X a0 (.inl 4)) (h : o_Post (fX4_hasSpace (o_rf X) a0 μ0) q) : o_Ev X (d + 0) mX4_hasSpace 0 [some (.ref (o_ad X a0))] [] μ0 (o_QZ q) := by
  unfold fX4_hasSpace at h
  refine s_aload_n (i := 0) dX4_hasSpace_0 rfl rfl ?_
  refine s_getI h0 flX4_22 rfl dX4_hasSpace_1 ?_
  refine s_bipush dX4_hasSpace_4 kB_20 ?_
  refine s_iadd dX4_hasSpace_6 ?_
  refine s_sipush dX4_hasSpace_7 kS_900 ?_
  refine s_icmp_gt (tgt := 17) dX4_hasSpace_10 rfl (fun c1 => ?_) (fun c1 => ?_)
  · have h := o_if_t c1 h
    refine s_iconst dX4_hasSpace_17 kI_0 ?_
    exact s_zreturn rfl (Or.inl rfl) dX4_hasSpace_18 ⟨_, rfl, (Or.inl rfl), o_ret h⟩
  · have h := o_if_f c1 h
    refine s_iconst dX4_hasSpace_13 kI_1 ?_
    refine s_goto (tgt := 18) dX4_hasSpace_14 rfl ?_
    exact s_zreturn rfl (Or.inr rfl) dX4_hasSpace_18 ⟨_, rfl, (Or.inr rfl), o_ret h⟩
theorem dX4_append_0 : decode cX4_append 0 = .ok (.bipush 24, 2) := by decide +kernel
theorem dX4_append_2 : decode cX4_append 2 = .ok (.istore_n 2, 1) := by decide +kernel
theorem dX4_append_3 : decode cX4_append 3 = .ok (.iload_n 2, 1) := by decide +kernel
theorem dX4_append_4 : decode cX4_append 4 = .ok (.ifCond .lt 42, 3) := by decide +kernel
theorem dX4_append_7 : decode cX4_append 7 = .ok (.aload_n 0, 1) := by decide +kernel
theorem dX4_append_8 : decode cX4_append 8 = .ok (.getfield 22, 3) := by decide +kernel
theorem dX4_append_11 : decode cX4_append 11 = .ok (.sipush 900, 3) := by decide +kernel
theorem dX4_append_14 : decode cX4_append 14 = .ok (.if_icmp .ge 26, 3) := by decide +kernel
theorem dX4_append_17 : decode cX4_append 17 = .ok (.aload_n 0, 1) := by decide +kernel
theorem dX4_append_18 : decode cX4_append 18 = .ok (.getfield 9, 3) := by decide +kernel
theorem dX4_append_21 : decode cX4_append 21 = .ok (.aload_n 0, 1) := by decide +kernel
theorem dX4_append_22 : decode cX4_append 22 = .ok (.getfield 22, 3) := by decide +kernel
theorem dX4_append_25 : decode cX4_append 25 = .ok (.iload_n 1, 1) := by decide +kernel
theorem dX4_append_26 : decode cX4_append 26 = .ok (.iload_n 2, 1) := by decide +kernel
theorem dX4_append_27 : decode cX4_append 27 = .ok (.ishr, 1) := by decide +kernel
theorem dX4_append_28 : decode cX4_append 28 = .ok (.i2b, 1) := by decide +kernel
theorem dX4_append_29 : decode cX4_append 29 = .ok (.bastore, 1) := by decide +kernel
theorem dX4_append_30 : decode cX4_append 30 = .ok (.aload_n 0, 1) := by decide +kernel
theorem dX4_append_31 : decode cX4_append 31 = .ok (.dup, 1) := by decide +kernel
theorem dX4_append_32 : decode cX4_append 32 = .ok (.getfield 22, 3) := by decide +kernel
theorem dX4_append_35 : decode cX4_append 35 = .ok (.iconst 1, 1) := by decide +kernel
theorem dX4_append_36 : decode cX4_append 36 = .ok (.iadd, 1) := by decide +kernel
theorem dX4_append_37 : decode cX4_append 37 = .ok (.putfield 22, 3) := by decide +kernel
theorem dX4_append_40 : decode cX4_append 40 = .ok (.iinc 2 (-8), 3) := by decide +kernel
theorem dX4_append_43 : decode cX4_append 43 = .ok (.goto (-40), 3) := by decide +kernel
theorem dX4_append_46 : decode cX4_append 46 = .ok (.return_, 1) := by decide +kernel
noncomputable def fX4_append_s3 (rf : Nat → Nat → Nat) (a0 : Nat) (x1 : Int32) (τ3 : Int32) (μ0 : o_Mem) : Option ((Nat × (Int32)) × o_Mem) :=
  if τ3 < 0 then (
    some ((46, 0), μ0))
  else (
    if 900 ≤ (μ0.1 a0 1) then (
      some ((3, (τ3 + (-8))), μ0))
    else (
      o_ck (0 ≤ ((μ0.1 a0 1)).toInt ∧ ((μ0.1 a0 1)).toInt < 900) <|
      o_seq (o_wI μ0 (rf a0 0) (((μ0.1 a0 1)).toNatClampNeg) (((x1 >>> (τ3 &&& 31)).toInt8.toInt32).toInt8.toInt32)) fun μ1 =>
      o_seq (o_wI μ1 a0 1 ((μ1.1 a0 1) + 1)) fun μ2 =>
      some ((3, (τ3 + (-8))), μ2)))
noncomputable def fX4_append (rf : Nat → Nat → Nat) (a0 : Nat) (x1 : Int32) (μ0 : o_Mem) : Option (Unit × o_Mem) :=
  o_bd (o_lp 3 (fX4_append_s3 rf a0 x1) o_fuel (24 : Int32) μ0) fun ex1 μ1 =>
  if ex1.1 = 46 then (
    some ((), μ1))
  else
    none
set_option maxRecDepth 20000 in
theorem dnX4_append_s3 {X : o_Cx} (hX : o_ok X) {d : Nat} {a0 : Nat} {x1 : Int32} {τ3 : Int32} {μ0 : o_Mem} {K : (Nat × (Int32)) → o_Mem → Prop} {Q : Option Value → o_Mem → Prop} (h0 : o_is X a0 (.inl 4)) (h : o_Post (fX4_append_s3 (o_rf X) a0 x1 τ3 μ0) K) (kh : ∀ (τ3 : Int32) (μ : o_Mem), K (3, τ3) μ → o_Ev X (d + 0) mX4_append 3 [some (.ref (o_ad X a0)), some (.int x1), some (.int τ3)] [] μ Q) (k46 : ∀ (τ3 : Int32) (μ : o_Mem), K (46, τ3) μ → o_Ev X (d + 0) mX4_append 46 [none, none, none] [] μ Q) : o_Ev X (d + 0) mX4_append 3 [some (.ref (o_ad X a0)), some (.int x1), some (.int τ3)] [] μ0 Q := by
  unfold fX4_append_s3 at h
  refine s_iload_n (i := 2) dX4_append_3 rfl rfl ?_
  refine s_if_lt (tgt := 46) dX4_append_4 rfl (fun c1 => ?_) (fun c1 => ?_)
  · have h := o_if_t c1 h
    refine s_mask [false, false, false] (L' := [none, none, none]) rfl ?_
    exact k46 0 _ (o_ret h)
  · have h := o_if_f c1 h
    refine s_aload_n (i := 0) dX4_append_7 rfl rfl ?_
    refine s_getI h0 flX4_22 rfl dX4_append_8 ?_
    refine s_sipush dX4_append_11 kS_900 ?_
    refine s_icmp_ge (tgt := 40) dX4_append_14 rfl (fun c1 => ?_) (fun c1 => ?_)
    · have h := o_if_t c1 h
      refine s_iinc (v := (τ3 + (-8))) dX4_append_40 rfl rfl (Nat.le_of_ble_eq_true rfl) rfl ?_
      refine s_goto (tgt := 3) dX4_append_43 rfl ?_
      refine s_mask [true, true, true] (L' := [some (.ref (o_ad X a0)), some (.int x1), some (.int (τ3 + (-8)))]) rfl ?_
      exact kh (τ3 + (-8)) _ (o_ret h)
    · have h := o_if_f c1 h
      refine s_aload_n (i := 0) dX4_append_17 rfl rfl ?_
      refine s_getR hX h0 flX4_9 rfl dX4_append_18 (fun (g1 : o_is X (o_rf X a0 0) (.inr (1, 900))) => ?_)
      refine s_aload_n (i := 0) dX4_append_21 rfl rfl ?_
      refine s_getI h0 flX4_22 rfl dX4_append_22 ?_
      refine s_iload_n (i := 1) dX4_append_25 rfl rfl ?_
      refine s_iload_n (i := 2) dX4_append_26 rfl rfl ?_
      refine s_ishr dX4_append_27 ?_
      refine s_i2b dX4_append_28 ?_
      have hc := o_ck_c h
      have h := o_ck_k h
      refine s_bastK hX g1 hc rfl dX4_append_29 (o_gen h (fun μ1 h => ?_))
      refine s_aload_n (i := 0) dX4_append_30 rfl rfl ?_
      refine s_dup dX4_append_31 rfl ?_
      refine s_getI h0 flX4_22 rfl dX4_append_32 ?_
      refine s_iconst dX4_append_35 kI_1 ?_
      refine s_iadd dX4_append_36 ?_
      refine s_putI hX h0 fwX4_22 rfl dX4_append_37 (o_gen h (fun μ2 h => ?_))
      refine s_iinc (v := (τ3 + (-8))) dX4_append_40 rfl rfl (Nat.le_of_ble_eq_true rfl) rfl ?_
      refine s_goto (tgt := 3) dX4_append_43 rfl ?_
      refine s_mask [true, true, true] (L' := [some (.ref (o_ad X a0)), some (.int x1), some (.int (τ3 + (-8)))]) rfl ?_
      exact kh (τ3 + (-8)) _ (o_ret h)
set_option maxRecDepth 20000 in
theorem dnX4_append {X : o_Cx} (hX : o_ok X) {d : Nat} {a0 : Nat} {x1 : Int32} {μ0 : o_Mem} {q : Unit → o_Mem → Prop} (h0 : o_is X a0 (.inl 4)) (h : o_Post (fX4_append (o_rf X) a0 x1 μ0) q) : o_Ev X (d + 0) mX4_append 0 [some (.ref (o_ad X a0)), some (.int x1), none] [] μ0 (o_QU q) := by
  unfold fX4_append at h
  refine s_bipush dX4_append_0 kB_24 ?_
  refine s_istore_n (i := 2) dX4_append_2 rfl (Nat.le_of_ble_eq_true rfl) rfl ?_
  refine s_mask [true, true, true] (L' := [some (.ref (o_ad X a0)), some (.int x1), some (.int 24)]) rfl ?_
  refine o_lp_ev (fun τ3 => [some (.ref (o_ad X a0)), some (.int x1), some (.int τ3)]) (fun τ3 μ _K h kv ke3 => dnX4_append_s3 hX h0 h kv (fun τ3 μ1 h => ?_)) o_fuel 24 μ0 (o_bdp h)
  · have h := o_if_t rfl (ke3 (46, τ3) μ1 (o_ne rfl) h)
    exact s_return rfl dX4_append_46 ⟨rfl, o_ret h⟩
theorem dX4_isSmall_0 : decode cX4_isSmall 0 = .ok (.iload_n 0, 1) := by decide +kernel
theorem dX4_isSmall_1 : decode cX4_isSmall 1 = .ok (.bipush 97, 2) := by decide +kernel
theorem dX4_isSmall_3 : decode cX4_isSmall 3 = .ok (.if_icmp .lt 13, 3) := by decide +kernel
theorem dX4_isSmall_6 : decode cX4_isSmall 6 = .ok (.iload_n 0, 1) := by decide +kernel
theorem dX4_isSmall_7 : decode cX4_isSmall 7 = .ok (.bipush 122, 2) := by decide +kernel
theorem dX4_isSmall_9 : decode cX4_isSmall 9 = .ok (.if_icmp .gt 7, 3) := by decide +kernel
theorem dX4_isSmall_12 : decode cX4_isSmall 12 = .ok (.iconst 1, 1) := by decide +kernel
theorem dX4_isSmall_13 : decode cX4_isSmall 13 = .ok (.goto 4, 3) := by decide +kernel
theorem dX4_isSmall_16 : decode cX4_isSmall 16 = .ok (.iconst 0, 1) := by decide +kernel
theorem dX4_isSmall_17 : decode cX4_isSmall 17 = .ok (.ireturn, 1) := by decide +kernel
noncomputable def fX4_isSmall (rf : Nat → Nat → Nat) (x0 : Int32) (μ0 : o_Mem) : Option (Int32 × o_Mem) :=
  if x0 < 97 then (
    some (0, μ0))
  else (
    if 122 < x0 then (
      some (0, μ0))
    else (
      some (1, μ0)))
set_option maxRecDepth 20000 in
theorem dnX4_isSmall {X : o_Cx} (hX : o_ok X) {d : Nat} {x0 : Int32} {μ0 : o_Mem} {q : Int32 → o_Mem → Prop}  (h : o_Post (fX4_isSmall (o_rf X) x0 μ0) q) : o_Ev X (d + 0) mX4_isSmall 0 [some (.int x0)] [] μ0 (o_QZ q) := by
  unfold fX4_isSmall at h
  refine s_iload_n (i := 0) dX4_isSmall_0 rfl rfl ?_
  refine s_bipush dX4_isSmall_1 kB_97 ?_
  refine s_icmp_lt (tgt := 16) dX4_isSmall_3 rfl (fun c1 => ?_) (fun c1 => ?_)
  · have h := o_if_t c1 h
    refine s_iconst dX4_isSmall_16 kI_0 ?_
    exact s_zreturn rfl (Or.inl rfl) dX4_isSmall_17 ⟨_, rfl, (Or.inl rfl), o_ret h⟩
  · have h := o_if_f c1 h
    refine s_iload_n (i := 0) dX4_isSmall_6 rfl rfl ?_
    refine s_bipush dX4_isSmall_7 kB_122 ?_
    refine s_icmp_gt (tgt := 16) dX4_isSmall_9 rfl (fun c1 => ?_) (fun c1 => ?_)
    · have h := o_if_t c1 h
      refine s_iconst dX4_isSmall_16 kI_0 ?_
      exact s_zreturn rfl (Or.inl rfl) dX4_isSmall_17 ⟨_, rfl, (Or.inl rfl), o_ret h⟩
    · have h := o_if_f c1 h
      refine s_iconst dX4_isSmall_12 kI_1 ?_
      refine s_goto (tgt := 17) dX4_isSmall_13 rfl ?_
      exact s_zreturn rfl (Or.inr rfl) dX4_isSmall_17 ⟨_, rfl, (Or.inr rfl), o_ret h⟩
theorem dX4_isDigit_0 : decode cX4_isDigit 0 = .ok (.iload_n 0, 1) := by decide +kernel
theorem dX4_isDigit_1 : decode cX4_isDigit 1 = .ok (.bipush 48, 2) := by decide +kernel
theorem dX4_isDigit_3 : decode cX4_isDigit 3 = .ok (.if_icmp .lt 13, 3) := by decide +kernel
theorem dX4_isDigit_6 : decode cX4_isDigit 6 = .ok (.iload_n 0, 1) := by decide +kernel
theorem dX4_isDigit_7 : decode cX4_isDigit 7 = .ok (.bipush 57, 2) := by decide +kernel
theorem dX4_isDigit_9 : decode cX4_isDigit 9 = .ok (.if_icmp .gt 7, 3) := by decide +kernel
theorem dX4_isDigit_12 : decode cX4_isDigit 12 = .ok (.iconst 1, 1) := by decide +kernel
theorem dX4_isDigit_13 : decode cX4_isDigit 13 = .ok (.goto 4, 3) := by decide +kernel
theorem dX4_isDigit_16 : decode cX4_isDigit 16 = .ok (.iconst 0, 1) := by decide +kernel
theorem dX4_isDigit_17 : decode cX4_isDigit 17 = .ok (.ireturn, 1) := by decide +kernel
noncomputable def fX4_isDigit (rf : Nat → Nat → Nat) (x0 : Int32) (μ0 : o_Mem) : Option (Int32 × o_Mem) :=
  if x0 < 48 then (
    some (0, μ0))
  else (
    if 57 < x0 then (
      some (0, μ0))
    else (
      some (1, μ0)))
set_option maxRecDepth 20000 in
theorem dnX4_isDigit {X : o_Cx} (hX : o_ok X) {d : Nat} {x0 : Int32} {μ0 : o_Mem} {q : Int32 → o_Mem → Prop}  (h : o_Post (fX4_isDigit (o_rf X) x0 μ0) q) : o_Ev X (d + 0) mX4_isDigit 0 [some (.int x0)] [] μ0 (o_QZ q) := by
  unfold fX4_isDigit at h
  refine s_iload_n (i := 0) dX4_isDigit_0 rfl rfl ?_
  refine s_bipush dX4_isDigit_1 kB_48 ?_
  refine s_icmp_lt (tgt := 16) dX4_isDigit_3 rfl (fun c1 => ?_) (fun c1 => ?_)
  · have h := o_if_t c1 h
    refine s_iconst dX4_isDigit_16 kI_0 ?_
    exact s_zreturn rfl (Or.inl rfl) dX4_isDigit_17 ⟨_, rfl, (Or.inl rfl), o_ret h⟩
  · have h := o_if_f c1 h
    refine s_iload_n (i := 0) dX4_isDigit_6 rfl rfl ?_
    refine s_bipush dX4_isDigit_7 kB_57 ?_
    refine s_icmp_gt (tgt := 16) dX4_isDigit_9 rfl (fun c1 => ?_) (fun c1 => ?_)
    · have h := o_if_t c1 h
      refine s_iconst dX4_isDigit_16 kI_0 ?_
      exact s_zreturn rfl (Or.inl rfl) dX4_isDigit_17 ⟨_, rfl, (Or.inl rfl), o_ret h⟩
    · have h := o_if_f c1 h
      refine s_iconst dX4_isDigit_12 kI_1 ?_
      refine s_goto (tgt := 17) dX4_isDigit_13 rfl ?_
      exact s_zreturn rfl (Or.inr rfl) dX4_isDigit_17 ⟨_, rfl, (Or.inr rfl), o_ret h⟩
theorem dX4_isSign_0 : decode cX4_isSign 0 = .ok (.iload_n 0, 1) := by decide +kernel
theorem dX4_isSign_1 : decode cX4_isSign 1 = .ok (.bipush 59, 2) := by decide +kernel
theorem dX4_isSign_3 : decode cX4_isSign 3 = .ok (.if_icmp .eq 21, 3) := by decide +kernel
theorem dX4_isSign_6 : decode cX4_isSign 6 = .ok (.iload_n 0, 1) := by decide +kernel
theorem dX4_isSign_7 : decode cX4_isSign 7 = .ok (.bipush 60, 2) := by decide +kernel
theorem dX4_isSign_9 : decode cX4_isSign 9 = .ok (.if_icmp .eq 15, 3) := by decide +kernel
theorem dX4_isSign_12 : decode cX4_isSign 12 = .ok (.iload_n 0, 1) := by decide +kernel
theorem dX4_isSign_13 : decode cX4_isSign 13 = .ok (.bipush 62, 2) := by decide +kernel
theorem dX4_isSign_15 : decode cX4_isSign 15 = .ok (.if_icmp .eq 9, 3) := by decide +kernel
theorem dX4_isSign_18 : decode cX4_isSign 18 = .ok (.iload_n 0, 1) := by decide +kernel
theorem dX4_isSign_19 : decode cX4_isSign 19 = .ok (.bipush 61, 2) := by decide +kernel
theorem dX4_isSign_21 : decode cX4_isSign 21 = .ok (.if_icmp .ne 7, 3) := by decide +kernel
theorem dX4_isSign_24 : decode cX4_isSign 24 = .ok (.iconst 1, 1) := by decide +kernel
theorem dX4_isSign_25 : decode cX4_isSign 25 = .ok (.goto 4, 3) := by decide +kernel
theorem dX4_isSign_28 : decode cX4_isSign 28 = .ok (.iconst 0, 1) := by decide +kernel
theorem dX4_isSign_29 : decode cX4_isSign 29 = .ok (.ireturn, 1) := by decide +kernel
noncomputable def fX4_isSign (rf : Nat → Nat → Nat) (x0 : Int32) (μ0 : o_Mem) : Option (Int32 × o_Mem) :=
  if x0 = 59 then (
    some (1, μ0))
  else (
    if x0 = 60 then (
      some (1, μ0))
    else (
      if x0 = 62 then (
        some (1, μ0))
      else (
        if x0 = 61 then (
          some (1, μ0))
        else (
          some (0, μ0)))))
set_option maxRecDepth 20000 in
theorem dnX4_isSign {X : o_Cx} (hX : o_ok X) {d : Nat} {x0 : Int32} {μ0 : o_Mem} {q : Int32 → o_Mem → Prop}  (h : o_Post (fX4_isSign (o_rf X) x0 μ0) q) : o_Ev X (d + 0) mX4_isSign 0 [some (.int x0)] [] μ0 (o_QZ q) := by
  unfold fX4_isSign at h
  refine s_iload_n (i := 0) dX4_isSign_0 rfl rfl ?_
  refine s_bipush dX4_isSign_1 kB_59 ?_
  refine s_icmp_eq (tgt := 24) dX4_isSign_3 rfl (fun c1 => ?_) (fun c1 => ?_)
  · have h := o_if_t c1 h
    refine s_iconst dX4_isSign_24 kI_1 ?_
    refine s_goto (tgt := 29) dX4_isSign_25 rfl ?_
    exact s_zreturn rfl (Or.inr rfl) dX4_isSign_29 ⟨_, rfl, (Or.inr rfl), o_ret h⟩
  · have h := o_if_f c1 h
    refine s_iload_n (i := 0) dX4_isSign_6 rfl rfl ?_
    refine s_bipush dX4_isSign_7 kB_60 ?_
    refine s_icmp_eq (tgt := 24) dX4_isSign_9 rfl (fun c1 => ?_) (fun c1 => ?_)
    · have h := o_if_t c1 h
      refine s_iconst dX4_isSign_24 kI_1 ?_
      refine s_goto (tgt := 29) dX4_isSign_25 rfl ?_
      exact s_zreturn rfl (Or.inr rfl) dX4_isSign_29 ⟨_, rfl, (Or.inr rfl), o_ret h⟩
    · have h := o_if_f c1 h
      refine s_iload_n (i := 0) dX4_isSign_12 rfl rfl ?_
      refine s_bipush dX4_isSign_13 kB_62 ?_
      refine s_icmp_eq (tgt := 24) dX4_isSign_15 rfl (fun c1 => ?_) (fun c1 => ?_)
      · have h := o_if_t c1 h
        refine s_iconst dX4_isSign_24 kI_1 ?_
        refine s_goto (tgt := 29) dX4_isSign_25 rfl ?_
        exact s_zreturn rfl (Or.inr rfl) dX4_isSign_29 ⟨_, rfl, (Or.inr rfl), o_ret h⟩
      · have h := o_if_f c1 h
        refine s_iload_n (i := 0) dX4_isSign_18 rfl rfl ?_
        refine s_bipush dX4_isSign_19 kB_61 ?_
        refine s_icmp_ne (tgt := 28) dX4_isSign_21 rfl (fun c1 => ?_) (fun c1 => ?_)
        · have h := o_if_f c1 h
          refine s_iconst dX4_isSign_28 kI_0 ?_
          exact s_zreturn rfl (Or.inl rfl) dX4_isSign_29 ⟨_, rfl, (Or.inl rfl), o_ret h⟩
        · have h := o_if_t c1 h
          refine s_iconst dX4_isSign_24 kI_1 ?_
          refine s_goto (tgt := 29) dX4_isSign_25 rfl ?_
          exact s_zreturn rfl (Or.inr rfl) dX4_isSign_29 ⟨_, rfl, (Or.inr rfl), o_ret h⟩
theorem dX4_readNumber_0 : decode cX4_readNumber 0 = .ok (.aload_n 0, 1) := by decide +kernel
theorem dX4_readNumber_1 : decode cX4_readNumber 1 = .ok (.iconst 2, 1) := by decide +kernel
theorem dX4_readNumber_2 : decode cX4_readNumber 2 = .ok (.putfield 46, 3) := by decide +kernel
theorem dX4_readNumber_5 : decode cX4_readNumber 5 = .ok (.aload_n 0, 1) := by decide +kernel
theorem dX4_readNumber_6 : decode cX4_readNumber 6 = .ok (.iconst 0, 1) := by decide +kernel
theorem dX4_readNumber_7 : decode cX4_readNumber 7 = .ok (.putfield 87, 3) := by decide +kernel
theorem dX4_readNumber_10 : decode cX4_readNumber 10 = .ok (.aload_n 0, 1) := by decide +kernel
theorem dX4_readNumber_11 : decode cX4_readNumber 11 = .ok (.getfield 34, 3) := by decide +kernel
theorem dX4_readNumber_14 : decode cX4_readNumber 14 = .ok (.aload_n 0, 1) := by decide +kernel
theorem dX4_readNumber_15 : decode cX4_readNumber 15 = .ok (.getfield 31, 3) := by decide +kernel
theorem dX4_readNumber_18 : decode cX4_readNumber 18 = .ok (.if_icmp .ge 76, 3) := by decide +kernel
theorem dX4_readNumber_21 : decode cX4_readNumber 21 = .ok (.aload_n 0, 1) := by decide +kernel
theorem dX4_readNumber_22 : decode cX4_readNumber 22 = .ok (.getfield 9, 3) := by decide +kernel
theorem dX4_readNumber_25 : decode cX4_readNumber 25 = .ok (.aload_n 0, 1) := by decide +kernel
theorem dX4_readNumber_26 : decode cX4_readNumber 26 = .ok (.getfield 34, 3) := by decide +kernel
theorem dX4_readNumber_29 : decode cX4_readNumber 29 = .ok (.baload, 1) := by decide +kernel
theorem dX4_readNumber_30 : decode cX4_readNumber 30 = .ok (.invokestatic 56, 3) := by decide +kernel
theorem dX4_readNumber_33 : decode cX4_readNumber 33 = .ok (.ifCond .eq 61, 3) := by decide +kernel
theorem dX4_readNumber_36 : decode cX4_readNumber 36 = .ok (.aload_n 0, 1) := by decide +kernel
theorem dX4_readNumber_37 : decode cX4_readNumber 37 = .ok (.getfield 34, 3) := by decide +kernel
theorem dX4_readNumber_40 : decode cX4_readNumber 40 = .ok (.aload_n 0, 1) := by decide +kernel
theorem dX4_readNumber_41 : decode cX4_readNumber 41 = .ok (.getfield 40, 3) := by decide +kernel
theorem dX4_readNumber_44 : decode cX4_readNumber 44 = .ok (.isub, 1) := by decide +kernel
theorem dX4_readNumber_45 : decode cX4_readNumber 45 = .ok (.iconst 4, 1) := by decide +kernel
theorem dX4_readNumber_46 : decode cX4_readNumber 46 = .ok (.if_icmp .ge 30, 3) := by decide +kernel
theorem dX4_readNumber_49 : decode cX4_readNumber 49 = .ok (.aload_n 0, 1) := by decide +kernel
theorem dX4_readNumber_50 : decode cX4_readNumber 50 = .ok (.aload_n 0, 1) := by decide +kernel
theorem dX4_readNumber_51 : decode cX4_readNumber 51 = .ok (.getfield 87, 3) := by decide +kernel
theorem dX4_readNumber_54 : decode cX4_readNumber 54 = .ok (.bipush 10, 2) := by decide +kernel
theorem dX4_readNumber_56 : decode cX4_readNumber 56 = .ok (.imul, 1) := by decide +kernel
theorem dX4_readNumber_57 : decode cX4_readNumber 57 = .ok (.aload_n 0, 1) := by decide +kernel
theorem dX4_readNumber_58 : decode cX4_readNumber 58 = .ok (.getfield 9, 3) := by decide +kernel
theorem dX4_readNumber_61 : decode cX4_readNumber 61 = .ok (.aload_n 0, 1) := by decide +kernel
theorem dX4_readNumber_62 : decode cX4_readNumber 62 = .ok (.getfield 34, 3) := by decide +kernel
theorem dX4_readNumber_65 : decode cX4_readNumber 65 = .ok (.baload, 1) := by decide +kernel
theorem dX4_readNumber_66 : decode cX4_readNumber 66 = .ok (.bipush 48, 2) := by decide +kernel
theorem dX4_readNumber_68 : decode cX4_readNumber 68 = .ok (.isub, 1) := by decide +kernel
theorem dX4_readNumber_69 : decode cX4_readNumber 69 = .ok (.iadd, 1) := by decide +kernel
theorem dX4_readNumber_70 : decode cX4_readNumber 70 = .ok (.putfield 87, 3) := by decide +kernel
theorem dX4_readNumber_73 : decode cX4_readNumber 73 = .ok (.goto 8, 3) := by decide +kernel
theorem dX4_readNumber_76 : decode cX4_readNumber 76 = .ok (.aload_n 0, 1) := by decide +kernel
theorem dX4_readNumber_77 : decode cX4_readNumber 77 = .ok (.iconst 4, 1) := by decide +kernel
theorem dX4_readNumber_78 : decode cX4_readNumber 78 = .ok (.putfield 46, 3) := by decide +kernel
theorem dX4_readNumber_81 : decode cX4_readNumber 81 = .ok (.aload_n 0, 1) := by decide +kernel
theorem dX4_readNumber_82 : decode cX4_readNumber 82 = .ok (.dup, 1) := by decide +kernel
theorem dX4_readNumber_83 : decode cX4_readNumber 83 = .ok (.getfield 34, 3) := by decide +kernel
theorem dX4_readNumber_86 : decode cX4_readNumber 86 = .ok (.iconst 1, 1) := by decide +kernel
theorem dX4_readNumber_87 : decode cX4_readNumber 87 = .ok (.iadd, 1) := by decide +kernel
theorem dX4_readNumber_88 : decode cX4_readNumber 88 = .ok (.putfield 34, 3) := by decide +kernel
theorem dX4_readNumber_91 : decode cX4_readNumber 91 = .ok (.goto (-81), 3) := by decide +kernel
theorem dX4_readNumber_94 : decode cX4_readNumber 94 = .ok (.return_, 1) := by decide +kernel
noncomputable def fX4_readNumber_j81 (rf : Nat → Nat → Nat) (a0 : Nat) (μ0 : o_Mem) : Option ((Nat × (Unit)) × o_Mem) :=
  o_seq (o_wI μ0 a0 5 ((μ0.1 a0 5) + 1)) fun μ1 =>
  some ((10, ()), μ1)
noncomputable def fX4_readNumber_s10 (rf : Nat → Nat → Nat) (a0 : Nat) (τ10 : Unit) (μ0 : o_Mem) : Option ((Nat × (Unit)) × o_Mem) :=
  if (μ0.1 a0 4) ≤ (μ0.1 a0 5) then (
    some ((94, ()), μ0))
  else (
    o_ck (0 ≤ ((μ0.1 a0 5)).toInt ∧ ((μ0.1 a0 5)).toInt < 900) <|
    o_bd (fX4_isDigit rf (μ0.1 (rf a0 0) ((μ0.1 a0 5)).toNatClampNeg) μ0) fun r1 μ1 =>
    if r1 = 0 then (
      some ((94, ()), μ1))
    else (
      if 4 ≤ ((μ1.1 a0 5) - (μ1.1 a0 6)) then (
        o_seq (o_wI μ1 a0 7 4) fun μ2 =>
        fX4_readNumber_j81 rf a0 μ2)
      else (
        o_ck (0 ≤ ((μ1.1 a0 5)).toInt ∧ ((μ1.1 a0 5)).toInt < 900) <|
        o_seq (o_wI μ1 a0 10 (((μ1.1 a0 10) * 10) + ((μ1.1 (rf a0 0) ((μ1.1 a0 5)).toNatClampNeg) - 48))) fun μ3 =>
        fX4_readNumber_j81 rf a0 μ3)))
noncomputable def fX4_readNumber (rf : Nat → Nat → Nat) (a0 : Nat) (μ0 : o_Mem) : Option (Unit × o_Mem) :=
  o_seq (o_wI μ0 a0 7 2) fun μ1 =>
  o_seq (o_wI μ1 a0 10 0) fun μ2 =>
  o_bd (o_lp 10 (fX4_readNumber_s10 rf a0) o_fuel () μ2) fun ex3 μ3 =>
  if ex3.1 = 94 then (
    some ((), μ3))
  else
    none
set_option maxRecDepth 20000 in
theorem dnX4_readNumber_j81 {X : o_Cx} (hX : o_ok X) {d : Nat} {a0 : Nat} {μ0 : o_Mem} {K : (Nat × (Unit)) → o_Mem → Prop} {Q : Option Value → o_Mem → Prop} (h0 : o_is X a0 (.inl 4)) (h : o_Post (fX4_readNumber_j81 (o_rf X) a0 μ0) K) (kh : ∀ (τ10 : Unit) (μ : o_Mem), K (10, τ10) μ → o_Ev X (d + 1) mX4_readNumber 10 [some (.ref (o_ad X a0))] [] μ Q) (k94 : ∀ (τ10 : Unit) (μ : o_Mem), K (94, τ10) μ → o_Ev X (d + 1) mX4_readNumber 94 [none] [] μ Q) : o_Ev X (d + 1) mX4_readNumber 81 [some (.ref (o_ad X a0))] [] μ0 Q := by
  unfold fX4_readNumber_j81 at h
  refine s_aload_n (i := 0) dX4_readNumber_81 rfl rfl ?_
  refine s_dup dX4_readNumber_82 rfl ?_
  refine s_getI h0 flX4_34 rfl dX4_readNumber_83 ?_
  refine s_iconst dX4_readNumber_86 kI_1 ?_
  refine s_iadd dX4_readNumber_87 ?_
  refine s_putI hX h0 fwX4_34 rfl dX4_readNumber_88 (o_gen h (fun μ1 h => ?_))
  refine s_goto (tgt := 10) dX4_readNumber_91 rfl ?_
  refine s_mask [true] (L' := [some (.ref (o_ad X a0))]) rfl ?_
  exact kh () _ (o_ret h)
set_option maxRecDepth 20000 in
theorem dnX4_readNumber_s10 {X : o_Cx} (hX : o_ok X) {d : Nat} {a0 : Nat} {τ10 : Unit} {μ0 : o_Mem} {K : (Nat × (Unit)) → o_Mem → Prop} {Q : Option Value → o_Mem → Prop} (h0 : o_is X a0 (.inl 4)) (h : o_Post (fX4_readNumber_s10 (o_rf X) a0 τ10 μ0) K) (kh : ∀ (τ10 : Unit) (μ : o_Mem), K (10, τ10) μ → o_Ev X (d + 1) mX4_readNumber 10 [some (.ref (o_ad X a0))] [] μ Q) (k94 : ∀ (τ10 : Unit) (μ : o_Mem), K (94, τ10) μ → o_Ev X (d + 1) mX4_readNumber 94 [none] [] μ Q) : o_Ev X (d + 1) mX4_readNumber 10 [some (.ref (o_ad X a0))] [] μ0 Q := by
  unfold fX4_readNumber_s10 at h
  refine s_aload_n (i := 0) dX4_readNumber_10 rfl rfl ?_
  refine s_getI h0 flX4_34 rfl dX4_readNumber_11 ?_
  refine s_aload_n (i := 0) dX4_readNumber_14 rfl rfl ?_
  refine s_getI h0 flX4_31 rfl dX4_readNumber_15 ?_
  refine s_icmp_ge (tgt := 94) dX4_readNumber_18 rfl (fun c1 => ?_) (fun c1 => ?_)
  · have h := o_if_t c1 h
    refine s_mask [false] (L' := [none]) rfl ?_
    exact k94 () _ (o_ret h)
  · have h := o_if_f c1 h
    refine s_aload_n (i := 0) dX4_readNumber_21 rfl rfl ?_
    refine s_getR hX h0 flX4_9 rfl dX4_readNumber_22 (fun (g1 : o_is X (o_rf X a0 0) (.inr (1, 900))) => ?_)
    refine s_aload_n (i := 0) dX4_readNumber_25 rfl rfl ?_
    refine s_getI h0 flX4_34 rfl dX4_readNumber_26 ?_
    have hc := o_ck_c h
    have h := o_ck_k h
    refine s_baldK g1 hc rfl dX4_readNumber_29 ?_
    refine s_callSz (C := mX4_isDigit) (As := [.int (μ0.1 (o_rf X a0 0) ((μ0.1 a0 5)).toNatClampNeg)]) (rest := []) (L0 := [some (.int (μ0.1 (o_rf X a0 0) ((μ0.1 a0 5)).toNatClampNeg))]) clX4_56 dX4_readNumber_30 rfl rfl (Nat.le_of_ble_eq_true rfl) (Nat.le_of_ble_eq_true rfl) (dnX4_isDigit hX  (o_bdp h)) (fun r1 μ1 zr1 h => ?_)
    refine s_if_eq (tgt := 94) dX4_readNumber_33 rfl (fun c1 => ?_) (fun c1 => ?_)
    · have h := o_if_t c1 h
      refine s_mask [false] (L' := [none]) rfl ?_
      exact k94 () _ (o_ret h)
    · have h := o_if_f c1 h
      refine s_aload_n (i := 0) dX4_readNumber_36 rfl rfl ?_
      refine s_getI h0 flX4_34 rfl dX4_readNumber_37 ?_
      refine s_aload_n (i := 0) dX4_readNumber_40 rfl rfl ?_
      refine s_getI h0 flX4_40 rfl dX4_readNumber_41 ?_
      refine s_isub dX4_readNumber_44 ?_
      refine s_iconst dX4_readNumber_45 kI_4 ?_
      refine s_icmp_ge (tgt := 76) dX4_readNumber_46 rfl (fun c1 => ?_) (fun c1 => ?_)
      · have h := o_if_t c1 h
        refine s_aload_n (i := 0) dX4_readNumber_76 rfl rfl ?_
        refine s_iconst dX4_readNumber_77 kI_4 ?_
        refine s_putI hX h0 fwX4_46 rfl dX4_readNumber_78 (o_gen h (fun μ2 h => ?_))
        refine s_mask [true] (L' := [some (.ref (o_ad X a0))]) rfl ?_
        exact dnX4_readNumber_j81 hX h0 h kh k94
      · have h := o_if_f c1 h
        refine s_aload_n (i := 0) dX4_readNumber_49 rfl rfl ?_
        refine s_aload_n (i := 0) dX4_readNumber_50 rfl rfl ?_
        refine s_getI h0 flX4_87 rfl dX4_readNumber_51 ?_
        refine s_bipush dX4_readNumber_54 kB_10 ?_
        refine s_imul dX4_readNumber_56 ?_
        refine s_aload_n (i := 0) dX4_readNumber_57 rfl rfl ?_
        refine s_getR hX h0 flX4_9 rfl dX4_readNumber_58 (fun (g2 : o_is X (o_rf X a0 0) (.inr (1, 900))) => ?_)
        refine s_aload_n (i := 0) dX4_readNumber_61 rfl rfl ?_
        refine s_getI h0 flX4_34 rfl dX4_readNumber_62 ?_
        have hc := o_ck_c h
        have h := o_ck_k h
        refine s_baldK g2 hc rfl dX4_readNumber_65 ?_
        refine s_bipush dX4_readNumber_66 kB_48 ?_
        refine s_isub dX4_readNumber_68 ?_
        refine s_iadd dX4_readNumber_69 ?_
        refine s_putI hX h0 fwX4_87 rfl dX4_readNumber_70 (o_gen h (fun μ3 h => ?_))
        refine s_goto (tgt := 81) dX4_readNumber_73 rfl ?_
        refine s_mask [true] (L' := [some (.ref (o_ad X a0))]) rfl ?_
        exact dnX4_readNumber_j81 hX h0 h kh k94
set_option maxRecDepth 20000 in
theorem dnX4_readNumber {X : o_Cx} (hX : o_ok X) {d : Nat} {a0 : Nat} {μ0 : o_Mem} {q : Unit → o_Mem → Prop} (h0 : o_is X a0 (.inl 4)) (h : o_Post (fX4_readNumber (o_rf X) a0 μ0) q) : o_Ev X (d + 1) mX4_readNumber 0 [some (.ref (o_ad X a0))] [] μ0 (o_QU q) := by
  unfold fX4_readNumber at h
  refine s_aload_n (i := 0) dX4_readNumber_0 rfl rfl ?_
  refine s_iconst dX4_readNumber_1 kI_2 ?_
  refine s_putI hX h0 fwX4_46 rfl dX4_readNumber_2 (o_gen h (fun μ1 h => ?_))
  refine s_aload_n (i := 0) dX4_readNumber_5 rfl rfl ?_
  refine s_iconst dX4_readNumber_6 kI_0 ?_
  refine s_putI hX h0 fwX4_87 rfl dX4_readNumber_7 (o_gen h (fun μ2 h => ?_))
  refine s_mask [true] (L' := [some (.ref (o_ad X a0))]) rfl ?_
  refine o_lp_ev (fun τ10 => [some (.ref (o_ad X a0))]) (fun τ10 μ _K h kv ke10 => dnX4_readNumber_s10 hX h0 h kv (fun τ10 μ3 h => ?_)) o_fuel () μ2 (o_bdp h)
  · have h := o_if_t rfl (ke10 (94, τ10) μ3 (o_ne rfl) h)
    exact s_return rfl dX4_readNumber_94 ⟨rfl, o_ret h⟩
theorem dX4_readWord_0 : decode cX4_readWord 0 = .ok (.aload_n 0, 1) := by decide +kernel
theorem dX4_readWord_1 : decode cX4_readWord 1 = .ok (.iconst 1, 1) := by decide +kernel
theorem dX4_readWord_2 : decode cX4_readWord 2 = .ok (.putfield 46, 3) := by decide +kernel
theorem dX4_readWord_5 : decode cX4_readWord 5 = .ok (.aload_n 0, 1) := by decide +kernel
theorem dX4_readWord_6 : decode cX4_readWord 6 = .ok (.lconst 0, 1) := by decide +kernel
theorem dX4_readWord_7 : decode cX4_readWord 7 = .ok (.putfield 68, 3) := by decide +kernel
theorem dX4_readWord_10 : decode cX4_readWord 10 = .ok (.aload_n 0, 1) := by decide +kernel
theorem dX4_readWord_11 : decode cX4_readWord 11 = .ok (.getfield 34, 3) := by decide +kernel
theorem dX4_readWord_14 : decode cX4_readWord 14 = .ok (.aload_n 0, 1) := by decide +kernel
theorem dX4_readWord_15 : decode cX4_readWord 15 = .ok (.getfield 31, 3) := by decide +kernel
theorem dX4_readWord_18 : decode cX4_readWord 18 = .ok (.if_icmp .ge 77, 3) := by decide +kernel
theorem dX4_readWord_21 : decode cX4_readWord 21 = .ok (.aload_n 0, 1) := by decide +kernel
theorem dX4_readWord_22 : decode cX4_readWord 22 = .ok (.getfield 9, 3) := by decide +kernel
theorem dX4_readWord_25 : decode cX4_readWord 25 = .ok (.aload_n 0, 1) := by decide +kernel
theorem dX4_readWord_26 : decode cX4_readWord 26 = .ok (.getfield 34, 3) := by decide +kernel
theorem dX4_readWord_29 : decode cX4_readWord 29 = .ok (.baload, 1) := by decide +kernel
theorem dX4_readWord_30 : decode cX4_readWord 30 = .ok (.invokestatic 49, 3) := by decide +kernel
theorem dX4_readWord_33 : decode cX4_readWord 33 = .ok (.ifCond .eq 62, 3) := by decide +kernel
theorem dX4_readWord_36 : decode cX4_readWord 36 = .ok (.aload_n 0, 1) := by decide +kernel
theorem dX4_readWord_37 : decode cX4_readWord 37 = .ok (.aload_n 0, 1) := by decide +kernel
theorem dX4_readWord_38 : decode cX4_readWord 38 = .ok (.getfield 34, 3) := by decide +kernel
theorem dX4_readWord_41 : decode cX4_readWord 41 = .ok (.aload_n 0, 1) := by decide +kernel
theorem dX4_readWord_42 : decode cX4_readWord 42 = .ok (.getfield 40, 3) := by decide +kernel
theorem dX4_readWord_45 : decode cX4_readWord 45 = .ok (.isub, 1) := by decide +kernel
theorem dX4_readWord_46 : decode cX4_readWord 46 = .ok (.bipush 8, 2) := by decide +kernel
theorem dX4_readWord_48 : decode cX4_readWord 48 = .ok (.if_icmp .ge 28, 3) := by decide +kernel
theorem dX4_readWord_51 : decode cX4_readWord 51 = .ok (.aload_n 0, 1) := by decide +kernel
theorem dX4_readWord_52 : decode cX4_readWord 52 = .ok (.getfield 68, 3) := by decide +kernel
theorem dX4_readWord_55 : decode cX4_readWord 55 = .ok (.ldc2_w 72, 3) := by decide +kernel
theorem dX4_readWord_58 : decode cX4_readWord 58 = .ok (.lmul, 1) := by decide +kernel
theorem dX4_readWord_59 : decode cX4_readWord 59 = .ok (.aload_n 0, 1) := by decide +kernel
theorem dX4_readWord_60 : decode cX4_readWord 60 = .ok (.getfield 9, 3) := by decide +kernel
theorem dX4_readWord_63 : decode cX4_readWord 63 = .ok (.aload_n 0, 1) := by decide +kernel
theorem dX4_readWord_64 : decode cX4_readWord 64 = .ok (.getfield 34, 3) := by decide +kernel
theorem dX4_readWord_67 : decode cX4_readWord 67 = .ok (.baload, 1) := by decide +kernel
theorem dX4_readWord_68 : decode cX4_readWord 68 = .ok (.bipush 96, 2) := by decide +kernel
theorem dX4_readWord_70 : decode cX4_readWord 70 = .ok (.isub, 1) := by decide +kernel
theorem dX4_readWord_71 : decode cX4_readWord 71 = .ok (.i2l, 1) := by decide +kernel
theorem dX4_readWord_72 : decode cX4_readWord 72 = .ok (.ladd, 1) := by decide +kernel
theorem dX4_readWord_73 : decode cX4_readWord 73 = .ok (.goto 6, 3) := by decide +kernel
theorem dX4_readWord_76 : decode cX4_readWord 76 = .ok (.ldc2_w 74, 3) := by decide +kernel
theorem dX4_readWord_79 : decode cX4_readWord 79 = .ok (.putfield 68, 3) := by decide +kernel
theorem dX4_readWord_82 : decode cX4_readWord 82 = .ok (.aload_n 0, 1) := by decide +kernel
theorem dX4_readWord_83 : decode cX4_readWord 83 = .ok (.dup, 1) := by decide +kernel
theorem dX4_readWord_84 : decode cX4_readWord 84 = .ok (.getfield 34, 3) := by decide +kernel
theorem dX4_readWord_87 : decode cX4_readWord 87 = .ok (.iconst 1, 1) := by decide +kernel
theorem dX4_readWord_88 : decode cX4_readWord 88 = .ok (.iadd, 1) := by decide +kernel
theorem dX4_readWord_89 : decode cX4_readWord 89 = .ok (.putfield 34, 3) := by decide +kernel
theorem dX4_readWord_92 : decode cX4_readWord 92 = .ok (.goto (-82), 3) := by decide +kernel
theorem dX4_readWord_95 : decode cX4_readWord 95 = .ok (.lconst 0, 1) := by decide +kernel
theorem dX4_readWord_96 : decode cX4_readWord 96 = .ok (.lstore_n 1, 1) := by decide +kernel
theorem dX4_readWord_97 : decode cX4_readWord 97 = .ok (.iconst 0, 1) := by decide +kernel
theorem dX4_readWord_98 : decode cX4_readWord 98 = .ok (.istore_n 3, 1) := by decide +kernel
theorem dX4_readWord_99 : decode cX4_readWord 99 = .ok (.iconst 0, 1) := by decide +kernel
theorem dX4_readWord_100 : decode cX4_readWord 100 = .ok (.istore 4, 2) := by decide +kernel
theorem dX4_readWord_102 : decode cX4_readWord 102 = .ok (.iload 4, 2) := by decide +kernel
theorem dX4_readWord_104 : decode cX4_readWord 104 = .ok (.ldc 76, 2) := by decide +kernel
theorem dX4_readWord_106 : decode cX4_readWord 106 = .ok (.invokevirtual 78, 3) := by decide +kernel
theorem dX4_readWord_109 : decode cX4_readWord 109 = .ok (.if_icmp .ge 60, 3) := by decide +kernel
theorem dX4_readWord_112 : decode cX4_readWord 112 = .ok (.ldc 76, 2) := by decide +kernel
theorem dX4_readWord_114 : decode cX4_readWord 114 = .ok (.iload 4, 2) := by decide +kernel
theorem dX4_readWord_116 : decode cX4_readWord 116 = .ok (.invokevirtual 83, 3) := by decide +kernel
theorem dX4_readWord_119 : decode cX4_readWord 119 = .ok (.istore 5, 2) := by decide +kernel
theorem dX4_readWord_121 : decode cX4_readWord 121 = .ok (.iload 5, 2) := by decide +kernel
theorem dX4_readWord_123 : decode cX4_readWord 123 = .ok (.bipush 32, 2) := by decide +kernel
theorem dX4_readWord_125 : decode cX4_readWord 125 = .ok (.if_icmp .eq 19, 3) := by decide +kernel
theorem dX4_readWord_128 : decode cX4_readWord 128 = .ok (.lload_n 1, 1) := by decide +kernel
theorem dX4_readWord_129 : decode cX4_readWord 129 = .ok (.ldc2_w 72, 3) := by decide +kernel
theorem dX4_readWord_132 : decode cX4_readWord 132 = .ok (.lmul, 1) := by decide +kernel
theorem dX4_readWord_133 : decode cX4_readWord 133 = .ok (.iload 5, 2) := by decide +kernel
theorem dX4_readWord_135 : decode cX4_readWord 135 = .ok (.bipush 96, 2) := by decide +kernel
theorem dX4_readWord_137 : decode cX4_readWord 137 = .ok (.isub, 1) := by decide +kernel
theorem dX4_readWord_138 : decode cX4_readWord 138 = .ok (.i2l, 1) := by decide +kernel
theorem dX4_readWord_139 : decode cX4_readWord 139 = .ok (.ladd, 1) := by decide +kernel
theorem dX4_readWord_140 : decode cX4_readWord 140 = .ok (.lstore_n 1, 1) := by decide +kernel
theorem dX4_readWord_141 : decode cX4_readWord 141 = .ok (.goto 22, 3) := by decide +kernel
theorem dX4_readWord_144 : decode cX4_readWord 144 = .ok (.lload_n 1, 1) := by decide +kernel
theorem dX4_readWord_145 : decode cX4_readWord 145 = .ok (.aload_n 0, 1) := by decide +kernel
theorem dX4_readWord_146 : decode cX4_readWord 146 = .ok (.getfield 68, 3) := by decide +kernel
theorem dX4_readWord_149 : decode cX4_readWord 149 = .ok (.lcmp, 1) := by decide +kernel
theorem dX4_readWord_150 : decode cX4_readWord 150 = .ok (.ifCond .ne 8, 3) := by decide +kernel
theorem dX4_readWord_153 : decode cX4_readWord 153 = .ok (.aload_n 0, 1) := by decide +kernel
theorem dX4_readWord_154 : decode cX4_readWord 154 = .ok (.iload_n 3, 1) := by decide +kernel
theorem dX4_readWord_155 : decode cX4_readWord 155 = .ok (.putfield 43, 3) := by decide +kernel
theorem dX4_readWord_158 : decode cX4_readWord 158 = .ok (.iinc 3 1, 3) := by decide +kernel
theorem dX4_readWord_161 : decode cX4_readWord 161 = .ok (.lconst 0, 1) := by decide +kernel
theorem dX4_readWord_162 : decode cX4_readWord 162 = .ok (.lstore_n 1, 1) := by decide +kernel
theorem dX4_readWord_163 : decode cX4_readWord 163 = .ok (.iinc 4 1, 3) := by decide +kernel
theorem dX4_readWord_166 : decode cX4_readWord 166 = .ok (.goto (-64), 3) := by decide +kernel
theorem dX4_readWord_169 : decode cX4_readWord 169 = .ok (.return_, 1) := by decide +kernel
noncomputable def fX4_readWord_j79 (rf : Nat → Nat → Nat) (a0 : Nat) (b0 : Nat) (y1 : Int64) (μ0 : o_Mem) : Option ((Nat × (Unit)) × o_Mem) :=
  o_seq (o_wL μ0 b0 9 y1) fun μ1 =>
  o_seq (o_wI μ1 a0 5 ((μ1.1 a0 5) + 1)) fun μ2 =>
  some ((10, ()), μ2)
noncomputable def fX4_readWord_s10 (rf : Nat → Nat → Nat) (a0 : Nat) (τ10 : Unit) (μ0 : o_Mem) : Option ((Nat × (Unit)) × o_Mem) :=
  if (μ0.1 a0 4) ≤ (μ0.1 a0 5) then (
    some ((95, ()), μ0))
  else (
    o_ck (0 ≤ ((μ0.1 a0 5)).toInt ∧ ((μ0.1 a0 5)).toInt < 900) <|
    o_bd (fX4_isSmall rf (μ0.1 (rf a0 0) ((μ0.1 a0 5)).toNatClampNeg) μ0) fun r1 μ1 =>
    if r1 = 0 then (
      some ((95, ()), μ1))
    else (
      if 8 ≤ ((μ1.1 a0 5) - (μ1.1 a0 6)) then (
        fX4_readWord_j79 rf a0 a0 ((-1) : Int64) μ1)
      else (
        o_ck (0 ≤ ((μ1.1 a0 5)).toInt ∧ ((μ1.1 a0 5)).toInt < 900) <|
        fX4_readWord_j79 rf a0 a0 (((μ1.2 a0 9) * (32 : Int64)) + ((μ1.1 (rf a0 0) ((μ1.1 a0 5)).toNatClampNeg) - 96).toInt64) μ1)))
noncomputable def fX4_readWord_j158 (rf : Nat → Nat → Nat) (a0 : Nat) (x3 : Int32) (x4 : Int32) (μ0 : o_Mem) : Option ((Nat × (Int64 × Int32 × Int32)) × o_Mem) :=
  some ((102, ((0 : Int64), (x3 + 1), (x4 + 1))), μ0)
noncomputable def fX4_readWord_s102 (rf : Nat → Nat → Nat) (a0 : Nat) (τ102 : Int64 × Int32 × Int32) (μ0 : o_Mem) : Option ((Nat × (Int64 × Int32 × Int32)) × o_Mem) :=
  if (o_ln 0) ≤ τ102.2.2 then (
    some ((169, (0, 0, 0)), μ0))
  else (
    o_ck (0 ≤ (τ102.2.2).toInt ∧ (τ102.2.2).toInt < (o_ln 0).toInt) <|
    if (o_chr 0 (τ102.2.2).toNatClampNeg) = 32 then (
      if τ102.1 = (μ0.2 a0 9) then (
        o_seq (o_wI μ0 a0 8 τ102.2.1) fun μ1 =>
        fX4_readWord_j158 rf a0 τ102.2.1 τ102.2.2 μ1)
      else (
        fX4_readWord_j158 rf a0 τ102.2.1 τ102.2.2 μ0))
    else (
      some ((102, (((τ102.1 * (32 : Int64)) + ((o_chr 0 (τ102.2.2).toNatClampNeg) - 96).toInt64), τ102.2.1, (τ102.2.2 + 1))), μ0)))
noncomputable def fX4_readWord (rf : Nat → Nat → Nat) (a0 : Nat) (μ0 : o_Mem) : Option (Unit × o_Mem) :=
  o_seq (o_wI μ0 a0 7 1) fun μ1 =>
  o_seq (o_wL μ1 a0 9 (0 : Int64)) fun μ2 =>
  o_bd (o_lp 10 (fX4_readWord_s10 rf a0) o_fuel () μ2) fun ex3 μ3 =>
  if ex3.1 = 95 then (
    o_bd (o_lp 102 (fX4_readWord_s102 rf a0) o_fuel ((0 : Int64), 0, 0) μ3) fun ex4 μ4 =>
    if ex4.1 = 169 then (
      some ((), μ4))
    else
      none)
  else
    none
set_option maxRecDepth 20000 in
theorem dnX4_readWord_j79 {X : o_Cx} (hX : o_ok X) {d : Nat} {a0 : Nat} {b0 : Nat} {y1 : Int64} {μ0 : o_Mem} {K : (Nat × (Unit)) → o_Mem → Prop} {Q : Option Value → o_Mem → Prop} (h0 : o_is X a0 (.inl 4)) (hb0 : o_is X b0 (.inl 4)) (h : o_Post (fX4_readWord_j79 (o_rf X) a0 b0 y1 μ0) K) (kh : ∀ (τ10 : Unit) (μ : o_Mem), K (10, τ10) μ → o_Ev X (d + 4) mX4_readWord 10 [some (.ref (o_ad X a0)), none, none, none, none, none] [] μ Q) (k95 : ∀ (τ10 : Unit) (μ : o_Mem), K (95, τ10) μ → o_Ev X (d + 4) mX4_readWord 95 [some (.ref (o_ad X a0)), none, none, none, none, none] [] μ Q) : o_Ev X (d + 4) mX4_readWord 79 [some (.ref (o_ad X a0)), none, none, none, none, none] [.long y1, .ref (o_ad X b0)] μ0 Q := by
  unfold fX4_readWord_j79 at h
  refine s_putL hX hb0 fwX4_68 rfl dX4_readWord_79 (o_gen h (fun μ1 h => ?_))
  refine s_aload_n (i := 0) dX4_readWord_82 rfl rfl ?_
  refine s_dup dX4_readWord_83 rfl ?_
  refine s_getI h0 flX4_34 rfl dX4_readWord_84 ?_
  refine s_iconst dX4_readWord_87 kI_1 ?_
  refine s_iadd dX4_readWord_88 ?_
  refine s_putI hX h0 fwX4_34 rfl dX4_readWord_89 (o_gen h (fun μ2 h => ?_))
  refine s_goto (tgt := 10) dX4_readWord_92 rfl ?_
  refine s_mask [true, false, false, false, false, false] (L' := [some (.ref (o_ad X a0)), none, none, none, none, none]) rfl ?_
  exact kh () _ (o_ret h)
set_option maxRecDepth 20000 in
theorem dnX4_readWord_s10 {X : o_Cx} (hX : o_ok X) {d : Nat} {a0 : Nat} {τ10 : Unit} {μ0 : o_Mem} {K : (Nat × (Unit)) → o_Mem → Prop} {Q : Option Value → o_Mem → Prop} (h0 : o_is X a0 (.inl 4)) (h : o_Post (fX4_readWord_s10 (o_rf X) a0 τ10 μ0) K) (kh : ∀ (τ10 : Unit) (μ : o_Mem), K (10, τ10) μ → o_Ev X (d + 4) mX4_readWord 10 [some (.ref (o_ad X a0)), none, none, none, none, none] [] μ Q) (k95 : ∀ (τ10 : Unit) (μ : o_Mem), K (95, τ10) μ → o_Ev X (d + 4) mX4_readWord 95 [some (.ref (o_ad X a0)), none, none, none, none, none] [] μ Q) : o_Ev X (d + 4) mX4_readWord 10 [some (.ref (o_ad X a0)), none, none, none, none, none] [] μ0 Q := by
  unfold fX4_readWord_s10 at h
  refine s_aload_n (i := 0) dX4_readWord_10 rfl rfl ?_
  refine s_getI h0 flX4_34 rfl dX4_readWord_11 ?_
  refine s_aload_n (i := 0) dX4_readWord_14 rfl rfl ?_
  refine s_getI h0 flX4_31 rfl dX4_readWord_15 ?_
  refine s_icmp_ge (tgt := 95) dX4_readWord_18 rfl (fun c1 => ?_) (fun c1 => ?_)
  · have h := o_if_t c1 h
    refine s_mask [true, false, false, false, false, false] (L' := [some (.ref (o_ad X a0)), none, none, none, none, none]) rfl ?_
    exact k95 () _ (o_ret h)
  · have h := o_if_f c1 h
    refine s_aload_n (i := 0) dX4_readWord_21 rfl rfl ?_
    refine s_getR hX h0 flX4_9 rfl dX4_readWord_22 (fun (g1 : o_is X (o_rf X a0 0) (.inr (1, 900))) => ?_)
    refine s_aload_n (i := 0) dX4_readWord_25 rfl rfl ?_
    refine s_getI h0 flX4_34 rfl dX4_readWord_26 ?_
    have hc := o_ck_c h
    have h := o_ck_k h
    refine s_baldK g1 hc rfl dX4_readWord_29 ?_
    refine s_callSz (C := mX4_isSmall) (As := [.int (μ0.1 (o_rf X a0 0) ((μ0.1 a0 5)).toNatClampNeg)]) (rest := []) (L0 := [some (.int (μ0.1 (o_rf X a0 0) ((μ0.1 a0 5)).toNatClampNeg))]) clX4_49 dX4_readWord_30 rfl rfl (Nat.le_of_ble_eq_true rfl) (Nat.le_of_ble_eq_true rfl) (dnX4_isSmall hX  (o_bdp h)) (fun r1 μ1 zr1 h => ?_)
    refine s_if_eq (tgt := 95) dX4_readWord_33 rfl (fun c1 => ?_) (fun c1 => ?_)
    · have h := o_if_t c1 h
      refine s_mask [true, false, false, false, false, false] (L' := [some (.ref (o_ad X a0)), none, none, none, none, none]) rfl ?_
      exact k95 () _ (o_ret h)
    · have h := o_if_f c1 h
      refine s_aload_n (i := 0) dX4_readWord_36 rfl rfl ?_
      refine s_aload_n (i := 0) dX4_readWord_37 rfl rfl ?_
      refine s_getI h0 flX4_34 rfl dX4_readWord_38 ?_
      refine s_aload_n (i := 0) dX4_readWord_41 rfl rfl ?_
      refine s_getI h0 flX4_40 rfl dX4_readWord_42 ?_
      refine s_isub dX4_readWord_45 ?_
      refine s_bipush dX4_readWord_46 kB_8 ?_
      refine s_icmp_ge (tgt := 76) dX4_readWord_48 rfl (fun c1 => ?_) (fun c1 => ?_)
      · have h := o_if_t c1 h
        refine s_ldc2 (v := (-1)) w_3_119 dX4_readWord_76 ?_
        refine s_mask [true, false, false, false, false, false] (L' := [some (.ref (o_ad X a0)), none, none, none, none, none]) rfl ?_
        exact dnX4_readWord_j79 hX h0 h0 h kh k95
      · have h := o_if_f c1 h
        refine s_aload_n (i := 0) dX4_readWord_51 rfl rfl ?_
        refine s_getL h0 flX4_68 rfl dX4_readWord_52 ?_
        refine s_ldc2 (v := 32) w_3_118 dX4_readWord_55 ?_
        refine s_lmul dX4_readWord_58 ?_
        refine s_aload_n (i := 0) dX4_readWord_59 rfl rfl ?_
        refine s_getR hX h0 flX4_9 rfl dX4_readWord_60 (fun (g2 : o_is X (o_rf X a0 0) (.inr (1, 900))) => ?_)
        refine s_aload_n (i := 0) dX4_readWord_63 rfl rfl ?_
        refine s_getI h0 flX4_34 rfl dX4_readWord_64 ?_
        have hc := o_ck_c h
        have h := o_ck_k h
        refine s_baldK g2 hc rfl dX4_readWord_67 ?_
        refine s_bipush dX4_readWord_68 kB_96 ?_
        refine s_isub dX4_readWord_70 ?_
        refine s_i2l dX4_readWord_71 ?_
        refine s_ladd dX4_readWord_72 ?_
        refine s_goto (tgt := 79) dX4_readWord_73 rfl ?_
        refine s_mask [true, false, false, false, false, false] (L' := [some (.ref (o_ad X a0)), none, none, none, none, none]) rfl ?_
        exact dnX4_readWord_j79 hX h0 h0 h kh k95
set_option maxRecDepth 20000 in
theorem dnX4_readWord_j158 {X : o_Cx} (hX : o_ok X) {d : Nat} {a0 : Nat} {x3 : Int32} {x4 : Int32} {μ0 : o_Mem} {K : (Nat × (Int64 × Int32 × Int32)) → o_Mem → Prop} {Q : Option Value → o_Mem → Prop} (h0 : o_is X a0 (.inl 4)) (h : o_Post (fX4_readWord_j158 (o_rf X) a0 x3 x4 μ0) K) (kh : ∀ (τ102 : Int64 × Int32 × Int32) (μ : o_Mem), K (102, τ102) μ → o_Ev X (d + 4) mX4_readWord 102 [some (.ref (o_ad X a0)), some (.long τ102.1), none, some (.int τ102.2.1), some (.int τ102.2.2), none] [] μ Q) (k169 : ∀ (τ102 : Int64 × Int32 × Int32) (μ : o_Mem), K (169, τ102) μ → o_Ev X (d + 4) mX4_readWord 169 [none, none, none, none, none, none] [] μ Q) : o_Ev X (d + 4) mX4_readWord 158 [some (.ref (o_ad X a0)), none, none, some (.int x3), some (.int x4), none] [] μ0 Q := by
  unfold fX4_readWord_j158 at h
  refine s_iinc (v := (x3 + 1)) dX4_readWord_158 rfl rfl (Nat.le_of_ble_eq_true rfl) rfl ?_
  refine s_lconst (v := 0) dX4_readWord_161 rfl ?_
  refine s_lstore_n (i := 1) dX4_readWord_162 rfl (Nat.le_of_ble_eq_true rfl) rfl ?_
  refine s_iinc (v := (x4 + 1)) dX4_readWord_163 rfl rfl (Nat.le_of_ble_eq_true rfl) rfl ?_
  refine s_goto (tgt := 102) dX4_readWord_166 rfl ?_
  refine s_mask [true, true, false, true, true, false] (L' := [some (.ref (o_ad X a0)), some (.long (0 : Int64)), none, some (.int (x3 + 1)), some (.int (x4 + 1)), none]) rfl ?_
  exact kh ((0 : Int64), (x3 + 1), (x4 + 1)) _ (o_ret h)
set_option maxRecDepth 20000 in
theorem dnX4_readWord_s102 {X : o_Cx} (hX : o_ok X) {d : Nat} {a0 : Nat} {τ102 : Int64 × Int32 × Int32} {μ0 : o_Mem} {K : (Nat × (Int64 × Int32 × Int32)) → o_Mem → Prop} {Q : Option Value → o_Mem → Prop} (h0 : o_is X a0 (.inl 4)) (h : o_Post (fX4_readWord_s102 (o_rf X) a0 τ102 μ0) K) (kh : ∀ (τ102 : Int64 × Int32 × Int32) (μ : o_Mem), K (102, τ102) μ → o_Ev X (d + 4) mX4_readWord 102 [some (.ref (o_ad X a0)), some (.long τ102.1), none, some (.int τ102.2.1), some (.int τ102.2.2), none] [] μ Q) (k169 : ∀ (τ102 : Int64 × Int32 × Int32) (μ : o_Mem), K (169, τ102) μ → o_Ev X (d + 4) mX4_readWord 169 [none, none, none, none, none, none] [] μ Q) : o_Ev X (d + 4) mX4_readWord 102 [some (.ref (o_ad X a0)), some (.long τ102.1), none, some (.int τ102.2.1), some (.int τ102.2.2), none] [] μ0 Q := by
  unfold fX4_readWord_s102 at h
  refine s_iload dX4_readWord_102 rfl ?_
  refine s_ldcS0 rfl dX4_readWord_104 ?_
  refine s_strlen0 (rest := [.int τ102.2.2]) mlX4_78 (Nat.le_of_ble_eq_true rfl) dX4_readWord_106 ?_
  refine s_icmp_ge (tgt := 169) dX4_readWord_109 rfl (fun c1 => ?_) (fun c1 => ?_)
  · have h := o_if_t c1 h
    refine s_mask [false, false, false, false, false, false] (L' := [none, none, none, none, none, none]) rfl ?_
    exact k169 (0, 0, 0) _ (o_ret h)
  · have h := o_if_f c1 h
    refine s_ldcS0 rfl dX4_readWord_112 ?_
    refine s_iload dX4_readWord_114 rfl ?_
    have hc := o_ck_c h
    have h := o_ck_k h
    refine s_charAt0 (rest := []) mlX4_83 hc (Nat.le_of_ble_eq_true rfl) dX4_readWord_116 ?_
    refine s_istore dX4_readWord_119 (Nat.le_of_ble_eq_true rfl) rfl ?_
    refine s_iload dX4_readWord_121 rfl ?_
    refine s_bipush dX4_readWord_123 kB_32 ?_
    refine s_icmp_eq (tgt := 144) dX4_readWord_125 rfl (fun c1 => ?_) (fun c1 => ?_)
    · have h := o_if_t c1 h
      refine s_lload_n (i := 1) dX4_readWord_144 rfl rfl ?_
      refine s_aload_n (i := 0) dX4_readWord_145 rfl rfl ?_
      refine s_getL h0 flX4_68 rfl dX4_readWord_146 ?_
      refine s_lif_ne (tgt := 158) dX4_readWord_149 dX4_readWord_150 rfl (fun c1 => ?_) (fun c1 => ?_)
      · have h := o_if_f c1 h
        refine s_mask [true, false, false, true, true, false] (L' := [some (.ref (o_ad X a0)), none, none, some (.int τ102.2.1), some (.int τ102.2.2), none]) rfl ?_
        exact dnX4_readWord_j158 hX h0 h kh k169
      · have h := o_if_t c1 h
        refine s_aload_n (i := 0) dX4_readWord_153 rfl rfl ?_
        refine s_iload_n (i := 3) dX4_readWord_154 rfl rfl ?_
        refine s_putI hX h0 fwX4_43 rfl dX4_readWord_155 (o_gen h (fun μ1 h => ?_))
        refine s_mask [true, false, false, true, true, false] (L' := [some (.ref (o_ad X a0)), none, none, some (.int τ102.2.1), some (.int τ102.2.2), none]) rfl ?_
        exact dnX4_readWord_j158 hX h0 h kh k169
    · have h := o_if_f c1 h
      refine s_lload_n (i := 1) dX4_readWord_128 rfl rfl ?_
      refine s_ldc2 (v := 32) w_3_118 dX4_readWord_129 ?_
      refine s_lmul dX4_readWord_132 ?_
      refine s_iload dX4_readWord_133 rfl ?_
      refine s_bipush dX4_readWord_135 kB_96 ?_
      refine s_isub dX4_readWord_137 ?_
      refine s_i2l dX4_readWord_138 ?_
      refine s_ladd dX4_readWord_139 ?_
      refine s_lstore_n (i := 1) dX4_readWord_140 rfl (Nat.le_of_ble_eq_true rfl) rfl ?_
      refine s_goto (tgt := 163) dX4_readWord_141 rfl ?_
      refine s_iinc (v := (τ102.2.2 + 1)) dX4_readWord_163 rfl rfl (Nat.le_of_ble_eq_true rfl) rfl ?_
      refine s_goto (tgt := 102) dX4_readWord_166 rfl ?_
      refine s_mask [true, true, false, true, true, false] (L' := [some (.ref (o_ad X a0)), some (.long ((τ102.1 * (32 : Int64)) + ((o_chr 0 (τ102.2.2).toNatClampNeg) - 96).toInt64)), none, some (.int τ102.2.1), some (.int (τ102.2.2 + 1)), none]) rfl ?_
      exact kh (((τ102.1 * (32 : Int64)) + ((o_chr 0 (τ102.2.2).toNatClampNeg) - 96).toInt64), τ102.2.1, (τ102.2.2 + 1)) _ (o_ret h)
set_option maxRecDepth 20000 in
theorem dnX4_readWord {X : o_Cx} (hX : o_ok X) {d : Nat} {a0 : Nat} {μ0 : o_Mem} {q : Unit → o_Mem → Prop} (h0 : o_is X a0 (.inl 4)) (h : o_Post (fX4_readWord (o_rf X) a0 μ0) q) : o_Ev X (d + 4) mX4_readWord 0 [some (.ref (o_ad X a0)), none, none, none, none, none] [] μ0 (o_QU q) := by
  unfold fX4_readWord at h
  refine s_aload_n (i := 0) dX4_readWord_0 rfl rfl ?_
  refine s_iconst dX4_readWord_1 kI_1 ?_
  refine s_putI hX h0 fwX4_46 rfl dX4_readWord_2 (o_gen h (fun μ1 h => ?_))
  refine s_aload_n (i := 0) dX4_readWord_5 rfl rfl ?_
  refine s_lconst (v := 0) dX4_readWord_6 rfl ?_
  refine s_putL hX h0 fwX4_68 rfl dX4_readWord_7 (o_gen h (fun μ2 h => ?_))
  refine s_mask [true, false, false, false, false, false] (L' := [some (.ref (o_ad X a0)), none, none, none, none, none]) rfl ?_
  refine o_lp_ev (fun τ10 => [some (.ref (o_ad X a0)), none, none, none, none, none]) (fun τ10 μ _K h kv ke10 => dnX4_readWord_s10 hX h0 h kv (fun τ10 μ3 h => ?_)) o_fuel () μ2 (o_bdp h)
  · have h := o_if_t rfl (ke10 (95, τ10) μ3 (o_ne rfl) h)
    refine s_lconst (v := 0) dX4_readWord_95 rfl ?_
    refine s_lstore_n (i := 1) dX4_readWord_96 rfl (Nat.le_of_ble_eq_true rfl) rfl ?_
    refine s_iconst dX4_readWord_97 kI_0 ?_
    refine s_istore_n (i := 3) dX4_readWord_98 rfl (Nat.le_of_ble_eq_true rfl) rfl ?_
    refine s_iconst dX4_readWord_99 kI_0 ?_
    refine s_istore dX4_readWord_100 (Nat.le_of_ble_eq_true rfl) rfl ?_
    refine s_mask [true, true, false, true, true, false] (L' := [some (.ref (o_ad X a0)), some (.long (0 : Int64)), none, some (.int 0), some (.int 0), none]) rfl ?_
    refine o_lp_ev (fun τ102 => [some (.ref (o_ad X a0)), some (.long τ102.1), none, some (.int τ102.2.1), some (.int τ102.2.2), none]) (fun τ102 μ _K h kv ke102 => dnX4_readWord_s102 hX h0 h kv (fun τ102 μ4 h => ?_)) o_fuel ((0 : Int64), 0, 0) μ3 (o_bdp h)
    · have h := o_if_t rfl (ke102 (169, τ102) μ4 (o_ne rfl) h)
      exact s_return rfl dX4_readWord_169 ⟨rfl, o_ret h⟩
theorem dX4_next_0 : decode cX4_next 0 = .ok (.aload_n 0, 1) := by decide +kernel
theorem dX4_next_1 : decode cX4_next 1 = .ok (.getfield 34, 3) := by decide +kernel
theorem dX4_next_4 : decode cX4_next 4 = .ok (.aload_n 0, 1) := by decide +kernel
theorem dX4_next_5 : decode cX4_next 5 = .ok (.getfield 31, 3) := by decide +kernel
theorem dX4_next_8 : decode cX4_next 8 = .ok (.if_icmp .ge 44, 3) := by decide +kernel
theorem dX4_next_11 : decode cX4_next 11 = .ok (.aload_n 0, 1) := by decide +kernel
theorem dX4_next_12 : decode cX4_next 12 = .ok (.getfield 9, 3) := by decide +kernel
theorem dX4_next_15 : decode cX4_next 15 = .ok (.aload_n 0, 1) := by decide +kernel
theorem dX4_next_16 : decode cX4_next 16 = .ok (.getfield 34, 3) := by decide +kernel
theorem dX4_next_19 : decode cX4_next 19 = .ok (.baload, 1) := by decide +kernel
theorem dX4_next_20 : decode cX4_next 20 = .ok (.bipush 10, 2) := by decide +kernel
theorem dX4_next_22 : decode cX4_next 22 = .ok (.if_icmp .eq 17, 3) := by decide +kernel
theorem dX4_next_25 : decode cX4_next 25 = .ok (.aload_n 0, 1) := by decide +kernel
theorem dX4_next_26 : decode cX4_next 26 = .ok (.getfield 9, 3) := by decide +kernel
theorem dX4_next_29 : decode cX4_next 29 = .ok (.aload_n 0, 1) := by decide +kernel
theorem dX4_next_30 : decode cX4_next 30 = .ok (.getfield 34, 3) := by decide +kernel
theorem dX4_next_33 : decode cX4_next 33 = .ok (.baload, 1) := by decide +kernel
theorem dX4_next_34 : decode cX4_next 34 = .ok (.bipush 32, 2) := by decide +kernel
theorem dX4_next_36 : decode cX4_next 36 = .ok (.if_icmp .ne 16, 3) := by decide +kernel
theorem dX4_next_39 : decode cX4_next 39 = .ok (.aload_n 0, 1) := by decide +kernel
theorem dX4_next_40 : decode cX4_next 40 = .ok (.dup, 1) := by decide +kernel
theorem dX4_next_41 : decode cX4_next 41 = .ok (.getfield 34, 3) := by decide +kernel
theorem dX4_next_44 : decode cX4_next 44 = .ok (.iconst 1, 1) := by decide +kernel
theorem dX4_next_45 : decode cX4_next 45 = .ok (.iadd, 1) := by decide +kernel
theorem dX4_next_46 : decode cX4_next 46 = .ok (.putfield 34, 3) := by decide +kernel
theorem dX4_next_49 : decode cX4_next 49 = .ok (.goto (-49), 3) := by decide +kernel
theorem dX4_next_52 : decode cX4_next 52 = .ok (.aload_n 0, 1) := by decide +kernel
theorem dX4_next_53 : decode cX4_next 53 = .ok (.aload_n 0, 1) := by decide +kernel
theorem dX4_next_54 : decode cX4_next 54 = .ok (.getfield 34, 3) := by decide +kernel
theorem dX4_next_57 : decode cX4_next 57 = .ok (.putfield 40, 3) := by decide +kernel
theorem dX4_next_60 : decode cX4_next 60 = .ok (.aload_n 0, 1) := by decide +kernel
theorem dX4_next_61 : decode cX4_next 61 = .ok (.iconst (-1), 1) := by decide +kernel
theorem dX4_next_62 : decode cX4_next 62 = .ok (.putfield 43, 3) := by decide +kernel
theorem dX4_next_65 : decode cX4_next 65 = .ok (.aload_n 0, 1) := by decide +kernel
theorem dX4_next_66 : decode cX4_next 66 = .ok (.getfield 34, 3) := by decide +kernel
theorem dX4_next_69 : decode cX4_next 69 = .ok (.aload_n 0, 1) := by decide +kernel
theorem dX4_next_70 : decode cX4_next 70 = .ok (.getfield 31, 3) := by decide +kernel
theorem dX4_next_73 : decode cX4_next 73 = .ok (.if_icmp .lt 11, 3) := by decide +kernel
theorem dX4_next_76 : decode cX4_next 76 = .ok (.aload_n 0, 1) := by decide +kernel
theorem dX4_next_77 : decode cX4_next 77 = .ok (.iconst 0, 1) := by decide +kernel
theorem dX4_next_78 : decode cX4_next 78 = .ok (.putfield 46, 3) := by decide +kernel
theorem dX4_next_81 : decode cX4_next 81 = .ok (.goto 98, 3) := by decide +kernel
theorem dX4_next_84 : decode cX4_next 84 = .ok (.aload_n 0, 1) := by decide +kernel
theorem dX4_next_85 : decode cX4_next 85 = .ok (.getfield 9, 3) := by decide +kernel
theorem dX4_next_88 : decode cX4_next 88 = .ok (.aload_n 0, 1) := by decide +kernel
theorem dX4_next_89 : decode cX4_next 89 = .ok (.getfield 34, 3) := by decide +kernel
theorem dX4_next_92 : decode cX4_next 92 = .ok (.baload, 1) := by decide +kernel
theorem dX4_next_93 : decode cX4_next 93 = .ok (.invokestatic 49, 3) := by decide +kernel
theorem dX4_next_96 : decode cX4_next 96 = .ok (.ifCond .eq 10, 3) := by decide +kernel
theorem dX4_next_99 : decode cX4_next 99 = .ok (.aload_n 0, 1) := by decide +kernel
theorem dX4_next_100 : decode cX4_next 100 = .ok (.invokevirtual 53, 3) := by decide +kernel
theorem dX4_next_103 : decode cX4_next 103 = .ok (.goto 76, 3) := by decide +kernel
theorem dX4_next_106 : decode cX4_next 106 = .ok (.aload_n 0, 1) := by decide +kernel
theorem dX4_next_107 : decode cX4_next 107 = .ok (.getfield 9, 3) := by decide +kernel
theorem dX4_next_110 : decode cX4_next 110 = .ok (.aload_n 0, 1) := by decide +kernel
theorem dX4_next_111 : decode cX4_next 111 = .ok (.getfield 34, 3) := by decide +kernel
theorem dX4_next_114 : decode cX4_next 114 = .ok (.baload, 1) := by decide +kernel
theorem dX4_next_115 : decode cX4_next 115 = .ok (.invokestatic 56, 3) := by decide +kernel
theorem dX4_next_118 : decode cX4_next 118 = .ok (.ifCond .eq 10, 3) := by decide +kernel
theorem dX4_next_121 : decode cX4_next 121 = .ok (.aload_n 0, 1) := by decide +kernel
theorem dX4_next_122 : decode cX4_next 122 = .ok (.invokevirtual 59, 3) := by decide +kernel
theorem dX4_next_125 : decode cX4_next 125 = .ok (.goto 54, 3) := by decide +kernel
theorem dX4_next_128 : decode cX4_next 128 = .ok (.aload_n 0, 1) := by decide +kernel
theorem dX4_next_129 : decode cX4_next 129 = .ok (.getfield 9, 3) := by decide +kernel
theorem dX4_next_132 : decode cX4_next 132 = .ok (.aload_n 0, 1) := by decide +kernel
theorem dX4_next_133 : decode cX4_next 133 = .ok (.getfield 34, 3) := by decide +kernel
theorem dX4_next_136 : decode cX4_next 136 = .ok (.baload, 1) := by decide +kernel
theorem dX4_next_137 : decode cX4_next 137 = .ok (.invokestatic 62, 3) := by decide +kernel
theorem dX4_next_140 : decode cX4_next 140 = .ok (.ifCond .eq 34, 3) := by decide +kernel
theorem dX4_next_143 : decode cX4_next 143 = .ok (.aload_n 0, 1) := by decide +kernel
theorem dX4_next_144 : decode cX4_next 144 = .ok (.iconst 3, 1) := by decide +kernel
theorem dX4_next_145 : decode cX4_next 145 = .ok (.putfield 46, 3) := by decide +kernel
theorem dX4_next_148 : decode cX4_next 148 = .ok (.aload_n 0, 1) := by decide +kernel
theorem dX4_next_149 : decode cX4_next 149 = .ok (.aload_n 0, 1) := by decide +kernel
theorem dX4_next_150 : decode cX4_next 150 = .ok (.getfield 9, 3) := by decide +kernel
theorem dX4_next_153 : decode cX4_next 153 = .ok (.aload_n 0, 1) := by decide +kernel
theorem dX4_next_154 : decode cX4_next 154 = .ok (.getfield 34, 3) := by decide +kernel
theorem dX4_next_157 : decode cX4_next 157 = .ok (.baload, 1) := by decide +kernel
theorem dX4_next_158 : decode cX4_next 158 = .ok (.putfield 65, 3) := by decide +kernel
theorem dX4_next_161 : decode cX4_next 161 = .ok (.aload_n 0, 1) := by decide +kernel
theorem dX4_next_162 : decode cX4_next 162 = .ok (.dup, 1) := by decide +kernel
theorem dX4_next_163 : decode cX4_next 163 = .ok (.getfield 34, 3) := by decide +kernel
theorem dX4_next_166 : decode cX4_next 166 = .ok (.iconst 1, 1) := by decide +kernel
theorem dX4_next_167 : decode cX4_next 167 = .ok (.iadd, 1) := by decide +kernel
theorem dX4_next_168 : decode cX4_next 168 = .ok (.putfield 34, 3) := by decide +kernel
theorem dX4_next_171 : decode cX4_next 171 = .ok (.goto 8, 3) := by decide +kernel
theorem dX4_next_174 : decode cX4_next 174 = .ok (.aload_n 0, 1) := by decide +kernel
theorem dX4_next_175 : decode cX4_next 175 = .ok (.iconst 4, 1) := by decide +kernel
theorem dX4_next_176 : decode cX4_next 176 = .ok (.putfield 46, 3) := by decide +kernel
theorem dX4_next_179 : decode cX4_next 179 = .ok (.return_, 1) := by decide +kernel
noncomputable def fX4_next_j39 (rf : Nat → Nat → Nat) (a0 : Nat) (μ0 : o_Mem) : Option ((Nat × (Unit)) × o_Mem) :=
  o_seq (o_wI μ0 a0 5 ((μ0.1 a0 5) + 1)) fun μ1 =>
  some ((0, ()), μ1)
noncomputable def fX4_next_s0 (rf : Nat → Nat → Nat) (a0 : Nat) (τ0 : Unit) (μ0 : o_Mem) : Option ((Nat × (Unit)) × o_Mem) :=
  if (μ0.1 a0 4) ≤ (μ0.1 a0 5) then (
    some ((52, ()), μ0))
  else (
    o_ck (0 ≤ ((μ0.1 a0 5)).toInt ∧ ((μ0.1 a0 5)).toInt < 900) <|
    if (μ0.1 (rf a0 0) ((μ0.1 a0 5)).toNatClampNeg) = 10 then (
      fX4_next_j39 rf a0 μ0)
    else (
      o_ck (0 ≤ ((μ0.1 a0 5)).toInt ∧ ((μ0.1 a0 5)).toInt < 900) <|
      if (μ0.1 (rf a0 0) ((μ0.1 a0 5)).toNatClampNeg) = 32 then (
        fX4_next_j39 rf a0 μ0)
      else (
        some ((52, ()), μ0))))
noncomputable def fX4_next_j52 (rf : Nat → Nat → Nat) (a0 : Nat) (μ0 : o_Mem) : Option (Unit × o_Mem) :=
  o_seq (o_wI μ0 a0 6 (μ0.1 a0 5)) fun μ1 =>
  o_seq (o_wI μ1 a0 8 (-1)) fun μ2 =>
  if (μ2.1 a0 5) < (μ2.1 a0 4) then (
    o_ck (0 ≤ ((μ2.1 a0 5)).toInt ∧ ((μ2.1 a0 5)).toInt < 900) <|
    o_bd (fX4_isSmall rf (μ2.1 (rf a0 0) ((μ2.1 a0 5)).toNatClampNeg) μ2) fun r1 μ3 =>
    if r1 = 0 then (
      o_ck (0 ≤ ((μ3.1 a0 5)).toInt ∧ ((μ3.1 a0 5)).toInt < 900) <|
      o_bd (fX4_isDigit rf (μ3.1 (rf a0 0) ((μ3.1 a0 5)).toNatClampNeg) μ3) fun r2 μ4 =>
      if r2 = 0 then (
        o_ck (0 ≤ ((μ4.1 a0 5)).toInt ∧ ((μ4.1 a0 5)).toInt < 900) <|
        o_bd (fX4_isSign rf (μ4.1 (rf a0 0) ((μ4.1 a0 5)).toNatClampNeg) μ4) fun r3 μ5 =>
        if r3 = 0 then (
          o_seq (o_wI μ5 a0 7 4) fun μ6 =>
          some ((), μ6))
        else (
          o_seq (o_wI μ5 a0 7 3) fun μ7 =>
          o_ck (0 ≤ ((μ7.1 a0 5)).toInt ∧ ((μ7.1 a0 5)).toInt < 900) <|
          o_seq (o_wI μ7 a0 11 (μ7.1 (rf a0 0) ((μ7.1 a0 5)).toNatClampNeg)) fun μ8 =>
          o_seq (o_wI μ8 a0 5 ((μ8.1 a0 5) + 1)) fun μ9 =>
          some ((), μ9)))
      else (
        o_bd (fX4_readNumber rf a0 μ4) fun _u μ10 =>
        some ((), μ10)))
    else (
      o_bd (fX4_readWord rf a0 μ3) fun _u μ11 =>
      some ((), μ11)))
  else (
    o_seq (o_wI μ2 a0 7 0) fun μ12 =>
    some ((), μ12))
noncomputable def fX4_next (rf : Nat → Nat → Nat) (a0 : Nat) (μ0 : o_Mem) : Option (Unit × o_Mem) :=
  o_bd (o_lp 0 (fX4_next_s0 rf a0) o_fuel () μ0) fun ex1 μ1 =>
  if ex1.1 = 52 then (
    fX4_next_j52 rf a0 μ1)
  else
    none
set_option maxRecDepth 20000 in
theorem dnX4_next_j39 {X : o_Cx} (hX : o_ok X) {d : Nat} {a0 : Nat} {μ0 : o_Mem} {K : (Nat × (Unit)) → o_Mem → Prop} {Q : Option Value → o_Mem → Prop} (h0 : o_is X a0 (.inl 4)) (h : o_Post (fX4_next_j39 (o_rf X) a0 μ0) K) (kh : ∀ (τ0 : Unit) (μ : o_Mem), K (0, τ0) μ → o_Ev X (d + 5) mX4_next 0 [some (.ref (o_ad X a0))] [] μ Q) (k52 : ∀ (τ0 : Unit) (μ : o_Mem), K (52, τ0) μ → o_Ev X (d + 5) mX4_next 52 [some (.ref (o_ad X a0))] [] μ Q) : o_Ev X (d + 5) mX4_next 39 [some (.ref (o_ad X a0))] [] μ0 Q := by
  unfold fX4_next_j39 at h
  refine s_aload_n (i := 0) dX4_next_39 rfl rfl ?_
  refine s_dup dX4_next_40 rfl ?_
  refine s_getI h0 flX4_34 rfl dX4_next_41 ?_
  refine s_iconst dX4_next_44 kI_1 ?_
  refine s_iadd dX4_next_45 ?_
  refine s_putI hX h0 fwX4_34 rfl dX4_next_46 (o_gen h (fun μ1 h => ?_))
  refine s_goto (tgt := 0) dX4_next_49 rfl ?_
  refine s_mask [true] (L' := [some (.ref (o_ad X a0))]) rfl ?_
  exact kh () _ (o_ret h)
set_option maxRecDepth 20000 in
theorem dnX4_next_s0 {X : o_Cx} (hX : o_ok X) {d : Nat} {a0 : Nat} {τ0 : Unit} {μ0 : o_Mem} {K : (Nat × (Unit)) → o_Mem → Prop} {Q : Option Value → o_Mem → Prop} (h0 : o_is X a0 (.inl 4)) (h : o_Post (fX4_next_s0 (o_rf X) a0 τ0 μ0) K) (kh : ∀ (τ0 : Unit) (μ : o_Mem), K (0, τ0) μ → o_Ev X (d + 5) mX4_next 0 [some (.ref (o_ad X a0))] [] μ Q) (k52 : ∀ (τ0 : Unit) (μ : o_Mem), K (52, τ0) μ → o_Ev X (d + 5) mX4_next 52 [some (.ref (o_ad X a0))] [] μ Q) : o_Ev X (d + 5) mX4_next 0 [some (.ref (o_ad X a0))] [] μ0 Q := by
  unfold fX4_next_s0 at h
  refine s_aload_n (i := 0) dX4_next_0 rfl rfl ?_
  refine s_getI h0 flX4_34 rfl dX4_next_1 ?_
  refine s_aload_n (i := 0) dX4_next_4 rfl rfl ?_
  refine s_getI h0 flX4_31 rfl dX4_next_5 ?_
  refine s_icmp_ge (tgt := 52) dX4_next_8 rfl (fun c1 => ?_) (fun c1 => ?_)
  · have h := o_if_t c1 h
    refine s_mask [true] (L' := [some (.ref (o_ad X a0))]) rfl ?_
    exact k52 () _ (o_ret h)
  · have h := o_if_f c1 h
    refine s_aload_n (i := 0) dX4_next_11 rfl rfl ?_
    refine s_getR hX h0 flX4_9 rfl dX4_next_12 (fun (g1 : o_is X (o_rf X a0 0) (.inr (1, 900))) => ?_)
    refine s_aload_n (i := 0) dX4_next_15 rfl rfl ?_
    refine s_getI h0 flX4_34 rfl dX4_next_16 ?_
    have hc := o_ck_c h
    have h := o_ck_k h
    refine s_baldK g1 hc rfl dX4_next_19 ?_
    refine s_bipush dX4_next_20 kB_10 ?_
    refine s_icmp_eq (tgt := 39) dX4_next_22 rfl (fun c1 => ?_) (fun c1 => ?_)
    · have h := o_if_t c1 h
      refine s_mask [true] (L' := [some (.ref (o_ad X a0))]) rfl ?_
      exact dnX4_next_j39 hX h0 h kh k52
    · have h := o_if_f c1 h
      refine s_aload_n (i := 0) dX4_next_25 rfl rfl ?_
      refine s_getR hX h0 flX4_9 rfl dX4_next_26 (fun (g2 : o_is X (o_rf X a0 0) (.inr (1, 900))) => ?_)
      refine s_aload_n (i := 0) dX4_next_29 rfl rfl ?_
      refine s_getI h0 flX4_34 rfl dX4_next_30 ?_
      have hc := o_ck_c h
      have h := o_ck_k h
      refine s_baldK g2 hc rfl dX4_next_33 ?_
      refine s_bipush dX4_next_34 kB_32 ?_
      refine s_icmp_ne (tgt := 52) dX4_next_36 rfl (fun c1 => ?_) (fun c1 => ?_)
      · have h := o_if_f c1 h
        refine s_mask [true] (L' := [some (.ref (o_ad X a0))]) rfl ?_
        exact k52 () _ (o_ret h)
      · have h := o_if_t c1 h
        refine s_mask [true] (L' := [some (.ref (o_ad X a0))]) rfl ?_
        exact dnX4_next_j39 hX h0 h kh k52
set_option maxRecDepth 20000 in
theorem dnX4_next_j52 {X : o_Cx} (hX : o_ok X) {d : Nat} {a0 : Nat} {μ0 : o_Mem} {q : Unit → o_Mem → Prop} (h0 : o_is X a0 (.inl 4)) (h : o_Post (fX4_next_j52 (o_rf X) a0 μ0) q) : o_Ev X (d + 5) mX4_next 52 [some (.ref (o_ad X a0))] [] μ0 (o_QU q) := by
  unfold fX4_next_j52 at h
  refine s_aload_n (i := 0) dX4_next_52 rfl rfl ?_
  refine s_aload_n (i := 0) dX4_next_53 rfl rfl ?_
  refine s_getI h0 flX4_34 rfl dX4_next_54 ?_
  refine s_putI hX h0 fwX4_40 rfl dX4_next_57 (o_gen h (fun μ1 h => ?_))
  refine s_aload_n (i := 0) dX4_next_60 rfl rfl ?_
  refine s_iconst dX4_next_61 kI_m1 ?_
  refine s_putI hX h0 fwX4_43 rfl dX4_next_62 (o_gen h (fun μ2 h => ?_))
  refine s_aload_n (i := 0) dX4_next_65 rfl rfl ?_
  refine s_getI h0 flX4_34 rfl dX4_next_66 ?_
  refine s_aload_n (i := 0) dX4_next_69 rfl rfl ?_
  refine s_getI h0 flX4_31 rfl dX4_next_70 ?_
  refine s_icmp_lt (tgt := 84) dX4_next_73 rfl (fun c1 => ?_) (fun c1 => ?_)
  · have h := o_if_t c1 h
    refine s_aload_n (i := 0) dX4_next_84 rfl rfl ?_
    refine s_getR hX h0 flX4_9 rfl dX4_next_85 (fun (g1 : o_is X (o_rf X a0 0) (.inr (1, 900))) => ?_)
    refine s_aload_n (i := 0) dX4_next_88 rfl rfl ?_
    refine s_getI h0 flX4_34 rfl dX4_next_89 ?_
    have hc := o_ck_c h
    have h := o_ck_k h
    refine s_baldK g1 hc rfl dX4_next_92 ?_
    refine s_callSz (C := mX4_isSmall) (As := [.int (μ2.1 (o_rf X a0 0) ((μ2.1 a0 5)).toNatClampNeg)]) (rest := []) (L0 := [some (.int (μ2.1 (o_rf X a0 0) ((μ2.1 a0 5)).toNatClampNeg))]) clX4_49 dX4_next_93 rfl rfl (Nat.le_of_ble_eq_true rfl) (Nat.le_of_ble_eq_true rfl) (dnX4_isSmall hX  (o_bdp h)) (fun r1 μ3 zr1 h => ?_)
    refine s_if_eq (tgt := 106) dX4_next_96 rfl (fun c1 => ?_) (fun c1 => ?_)
    · have h := o_if_t c1 h
      refine s_aload_n (i := 0) dX4_next_106 rfl rfl ?_
      refine s_getR hX h0 flX4_9 rfl dX4_next_107 (fun (g2 : o_is X (o_rf X a0 0) (.inr (1, 900))) => ?_)
      refine s_aload_n (i := 0) dX4_next_110 rfl rfl ?_
      refine s_getI h0 flX4_34 rfl dX4_next_111 ?_
      have hc := o_ck_c h
      have h := o_ck_k h
      refine s_baldK g2 hc rfl dX4_next_114 ?_
      refine s_callSz (C := mX4_isDigit) (As := [.int (μ3.1 (o_rf X a0 0) ((μ3.1 a0 5)).toNatClampNeg)]) (rest := []) (L0 := [some (.int (μ3.1 (o_rf X a0 0) ((μ3.1 a0 5)).toNatClampNeg))]) clX4_56 dX4_next_115 rfl rfl (Nat.le_of_ble_eq_true rfl) (Nat.le_of_ble_eq_true rfl) (dnX4_isDigit hX  (o_bdp h)) (fun r2 μ4 zr2 h => ?_)
      refine s_if_eq (tgt := 128) dX4_next_118 rfl (fun c1 => ?_) (fun c1 => ?_)
      · have h := o_if_t c1 h
        refine s_aload_n (i := 0) dX4_next_128 rfl rfl ?_
        refine s_getR hX h0 flX4_9 rfl dX4_next_129 (fun (g3 : o_is X (o_rf X a0 0) (.inr (1, 900))) => ?_)
        refine s_aload_n (i := 0) dX4_next_132 rfl rfl ?_
        refine s_getI h0 flX4_34 rfl dX4_next_133 ?_
        have hc := o_ck_c h
        have h := o_ck_k h
        refine s_baldK g3 hc rfl dX4_next_136 ?_
        refine s_callSz (C := mX4_isSign) (As := [.int (μ4.1 (o_rf X a0 0) ((μ4.1 a0 5)).toNatClampNeg)]) (rest := []) (L0 := [some (.int (μ4.1 (o_rf X a0 0) ((μ4.1 a0 5)).toNatClampNeg))]) clX4_62 dX4_next_137 rfl rfl (Nat.le_of_ble_eq_true rfl) (Nat.le_of_ble_eq_true rfl) (dnX4_isSign hX  (o_bdp h)) (fun r3 μ5 zr3 h => ?_)
        refine s_if_eq (tgt := 174) dX4_next_140 rfl (fun c1 => ?_) (fun c1 => ?_)
        · have h := o_if_t c1 h
          refine s_aload_n (i := 0) dX4_next_174 rfl rfl ?_
          refine s_iconst dX4_next_175 kI_4 ?_
          refine s_putI hX h0 fwX4_46 rfl dX4_next_176 (o_gen h (fun μ6 h => ?_))
          exact s_return rfl dX4_next_179 ⟨rfl, o_ret h⟩
        · have h := o_if_f c1 h
          refine s_aload_n (i := 0) dX4_next_143 rfl rfl ?_
          refine s_iconst dX4_next_144 kI_3 ?_
          refine s_putI hX h0 fwX4_46 rfl dX4_next_145 (o_gen h (fun μ7 h => ?_))
          refine s_aload_n (i := 0) dX4_next_148 rfl rfl ?_
          refine s_aload_n (i := 0) dX4_next_149 rfl rfl ?_
          refine s_getR hX h0 flX4_9 rfl dX4_next_150 (fun (g4 : o_is X (o_rf X a0 0) (.inr (1, 900))) => ?_)
          refine s_aload_n (i := 0) dX4_next_153 rfl rfl ?_
          refine s_getI h0 flX4_34 rfl dX4_next_154 ?_
          have hc := o_ck_c h
          have h := o_ck_k h
          refine s_baldK g4 hc rfl dX4_next_157 ?_
          refine s_putI hX h0 fwX4_65 rfl dX4_next_158 (o_gen h (fun μ8 h => ?_))
          refine s_aload_n (i := 0) dX4_next_161 rfl rfl ?_
          refine s_dup dX4_next_162 rfl ?_
          refine s_getI h0 flX4_34 rfl dX4_next_163 ?_
          refine s_iconst dX4_next_166 kI_1 ?_
          refine s_iadd dX4_next_167 ?_
          refine s_putI hX h0 fwX4_34 rfl dX4_next_168 (o_gen h (fun μ9 h => ?_))
          refine s_goto (tgt := 179) dX4_next_171 rfl ?_
          exact s_return rfl dX4_next_179 ⟨rfl, o_ret h⟩
      · have h := o_if_f c1 h
        refine s_aload_n (i := 0) dX4_next_121 rfl rfl ?_
        refine s_callVu (C := mX4_readNumber) (As := []) (rest := []) (L0 := [some (.ref (o_ad X a0))]) hX h0 clX4_59 dX4_next_122 rfl rfl (Nat.le_of_ble_eq_true rfl) (Nat.le_of_ble_eq_true rfl) (dnX4_readNumber hX h0 (o_bdp h)) (fun _u μ10 h => ?_)
        refine s_goto (tgt := 179) dX4_next_125 rfl ?_
        exact s_return rfl dX4_next_179 ⟨rfl, o_ret h⟩
    · have h := o_if_f c1 h
      refine s_aload_n (i := 0) dX4_next_99 rfl rfl ?_
      refine s_callVu (C := mX4_readWord) (As := []) (rest := []) (L0 := [some (.ref (o_ad X a0)), none, none, none, none, none]) hX h0 clX4_53 dX4_next_100 rfl rfl (Nat.le_of_ble_eq_true rfl) (Nat.le_of_ble_eq_true rfl) (dnX4_readWord hX h0 (o_bdp h)) (fun _u μ11 h => ?_)
      refine s_goto (tgt := 179) dX4_next_103 rfl ?_
      exact s_return rfl dX4_next_179 ⟨rfl, o_ret h⟩
  · have h := o_if_f c1 h
    refine s_aload_n (i := 0) dX4_next_76 rfl rfl ?_
    refine s_iconst dX4_next_77 kI_0 ?_
    refine s_putI hX h0 fwX4_46 rfl dX4_next_78 (o_gen h (fun μ12 h => ?_))
    refine s_goto (tgt := 179) dX4_next_81 rfl ?_
    exact s_return rfl dX4_next_179 ⟨rfl, o_ret h⟩
set_option maxRecDepth 20000 in
theorem dnX4_next {X : o_Cx} (hX : o_ok X) {d : Nat} {a0 : Nat} {μ0 : o_Mem} {q : Unit → o_Mem → Prop} (h0 : o_is X a0 (.inl 4)) (h : o_Post (fX4_next (o_rf X) a0 μ0) q) : o_Ev X (d + 5) mX4_next 0 [some (.ref (o_ad X a0))] [] μ0 (o_QU q) := by
  unfold fX4_next at h
  refine s_mask [true] (L' := [some (.ref (o_ad X a0))]) rfl ?_
  refine o_lp_ev (fun τ0 => [some (.ref (o_ad X a0))]) (fun τ0 μ _K h kv ke0 => dnX4_next_s0 hX h0 h kv (fun τ0 μ1 h => ?_)) o_fuel () μ0 (o_bdp h)
  · have h := o_if_t rfl (ke0 (52, τ0) μ1 (o_ne rfl) h)
    refine s_mask [true] (L' := [some (.ref (o_ad X a0))]) rfl ?_
    exact dnX4_next_j52 hX h0 h
theorem dX4_begin_0 : decode cX4_begin 0 = .ok (.aload_n 0, 1) := by decide +kernel
theorem dX4_begin_1 : decode cX4_begin 1 = .ok (.iload_n 1, 1) := by decide +kernel
theorem dX4_begin_2 : decode cX4_begin 2 = .ok (.aload_n 0, 1) := by decide +kernel
theorem dX4_begin_3 : decode cX4_begin 3 = .ok (.getfield 22, 3) := by decide +kernel
theorem dX4_begin_6 : decode cX4_begin 6 = .ok (.invokestatic 25, 3) := by decide +kernel
theorem dX4_begin_9 : decode cX4_begin 9 = .ok (.putfield 31, 3) := by decide +kernel
theorem dX4_begin_12 : decode cX4_begin 12 = .ok (.aload_n 0, 1) := by decide +kernel
theorem dX4_begin_13 : decode cX4_begin 13 = .ok (.iconst 0, 1) := by decide +kernel
theorem dX4_begin_14 : decode cX4_begin 14 = .ok (.putfield 22, 3) := by decide +kernel
theorem dX4_begin_17 : decode cX4_begin 17 = .ok (.aload_n 0, 1) := by decide +kernel
theorem dX4_begin_18 : decode cX4_begin 18 = .ok (.iconst 0, 1) := by decide +kernel
theorem dX4_begin_19 : decode cX4_begin 19 = .ok (.putfield 34, 3) := by decide +kernel
theorem dX4_begin_22 : decode cX4_begin 22 = .ok (.aload_n 0, 1) := by decide +kernel
theorem dX4_begin_23 : decode cX4_begin 23 = .ok (.iconst 0, 1) := by decide +kernel
theorem dX4_begin_24 : decode cX4_begin 24 = .ok (.putfield 15, 3) := by decide +kernel
theorem dX4_begin_27 : decode cX4_begin 27 = .ok (.aload_n 0, 1) := by decide +kernel
theorem dX4_begin_28 : decode cX4_begin 28 = .ok (.iconst (-1), 1) := by decide +kernel
theorem dX4_begin_29 : decode cX4_begin 29 = .ok (.putfield 19, 3) := by decide +kernel
theorem dX4_begin_32 : decode cX4_begin 32 = .ok (.aload_n 0, 1) := by decide +kernel
theorem dX4_begin_33 : decode cX4_begin 33 = .ok (.invokevirtual 37, 3) := by decide +kernel
theorem dX4_begin_36 : decode cX4_begin 36 = .ok (.return_, 1) := by decide +kernel
noncomputable def fX4_begin (rf : Nat → Nat → Nat) (a0 : Nat) (x1 : Int32) (μ0 : o_Mem) : Option (Unit × o_Mem) :=
  o_seq (o_wI μ0 a0 4 (if x1 > (μ0.1 a0 1) then (μ0.1 a0 1) else x1)) fun μ1 =>
  o_seq (o_wI μ1 a0 1 0) fun μ2 =>
  o_seq (o_wI μ2 a0 5 0) fun μ3 =>
  o_seq (o_wI μ3 a0 2 0) fun μ4 =>
  o_seq (o_wI μ4 a0 3 (-1)) fun μ5 =>
  o_bd (fX4_next rf a0 μ5) fun _u μ6 =>
  some ((), μ6)
set_option maxRecDepth 20000 in
theorem dnX4_begin {X : o_Cx} (hX : o_ok X) {d : Nat} {a0 : Nat} {x1 : Int32} {μ0 : o_Mem} {q : Unit → o_Mem → Prop} (h0 : o_is X a0 (.inl 4)) (h : o_Post (fX4_begin (o_rf X) a0 x1 μ0) q) : o_Ev X (d + 6) mX4_begin 0 [some (.ref (o_ad X a0)), some (.int x1)] [] μ0 (o_QU q) := by
  unfold fX4_begin at h
  refine s_aload_n (i := 0) dX4_begin_0 rfl rfl ?_
  refine s_iload_n (i := 1) dX4_begin_1 rfl rfl ?_
  refine s_aload_n (i := 0) dX4_begin_2 rfl rfl ?_
  refine s_getI h0 flX4_22 rfl dX4_begin_3 ?_
  refine s_min mlX4_25 mst_min mini mco_min (Nat.le_of_ble_eq_true rfl) dX4_begin_6 ?_
  refine s_putI hX h0 fwX4_31 rfl dX4_begin_9 (o_gen h (fun μ1 h => ?_))
  refine s_aload_n (i := 0) dX4_begin_12 rfl rfl ?_
  refine s_iconst dX4_begin_13 kI_0 ?_
  refine s_putI hX h0 fwX4_22 rfl dX4_begin_14 (o_gen h (fun μ2 h => ?_))
  refine s_aload_n (i := 0) dX4_begin_17 rfl rfl ?_
  refine s_iconst dX4_begin_18 kI_0 ?_
  refine s_putI hX h0 fwX4_34 rfl dX4_begin_19 (o_gen h (fun μ3 h => ?_))
  refine s_aload_n (i := 0) dX4_begin_22 rfl rfl ?_
  refine s_iconst dX4_begin_23 kI_0 ?_
  refine s_putI hX h0 fwX4_15 rfl dX4_begin_24 (o_gen h (fun μ4 h => ?_))
  refine s_aload_n (i := 0) dX4_begin_27 rfl rfl ?_
  refine s_iconst dX4_begin_28 kI_m1 ?_
  refine s_putI hX h0 fwX4_19 rfl dX4_begin_29 (o_gen h (fun μ5 h => ?_))
  refine s_aload_n (i := 0) dX4_begin_32 rfl rfl ?_
  refine s_callVu (C := mX4_next) (As := []) (rest := []) (L0 := [some (.ref (o_ad X a0))]) hX h0 clX4_37 dX4_begin_33 rfl rfl (Nat.le_of_ble_eq_true rfl) (Nat.le_of_ble_eq_true rfl) (dnX4_next hX h0 (o_bdp h)) (fun _u μ6 h => ?_)
  exact s_return rfl dX4_begin_36 ⟨rfl, o_ret h⟩
theorem dX4_fail_0 : decode cX4_fail 0 = .ok (.aload_n 0, 1) := by decide +kernel
theorem dX4_fail_1 : decode cX4_fail 1 = .ok (.aload_n 0, 1) := by decide +kernel
theorem dX4_fail_2 : decode cX4_fail 2 = .ok (.getfield 46, 3) := by decide +kernel
theorem dX4_fail_5 : decode cX4_fail 5 = .ok (.iconst 4, 1) := by decide +kernel
theorem dX4_fail_6 : decode cX4_fail 6 = .ok (.if_icmp .ne 7, 3) := by decide +kernel
theorem dX4_fail_9 : decode cX4_fail 9 = .ok (.iconst 1, 1) := by decide +kernel
theorem dX4_fail_10 : decode cX4_fail 10 = .ok (.goto 4, 3) := by decide +kernel
theorem dX4_fail_13 : decode cX4_fail 13 = .ok (.iload_n 1, 1) := by decide +kernel
theorem dX4_fail_14 : decode cX4_fail 14 = .ok (.putfield 15, 3) := by decide +kernel
theorem dX4_fail_17 : decode cX4_fail 17 = .ok (.aload_n 0, 1) := by decide +kernel
theorem dX4_fail_18 : decode cX4_fail 18 = .ok (.aload_n 0, 1) := by decide +kernel
theorem dX4_fail_19 : decode cX4_fail 19 = .ok (.getfield 40, 3) := by decide +kernel
theorem dX4_fail_22 : decode cX4_fail 22 = .ok (.putfield 19, 3) := by decide +kernel
theorem dX4_fail_25 : decode cX4_fail 25 = .ok (.iconst 0, 1) := by decide +kernel
theorem dX4_fail_26 : decode cX4_fail 26 = .ok (.ireturn, 1) := by decide +kernel
noncomputable def fX4_fail_j14 (rf : Nat → Nat → Nat) (a0 : Nat) (b0 : Nat) (y1 : Int32) (μ0 : o_Mem) : Option (Int32 × o_Mem) :=
  o_seq (o_wI μ0 b0 2 y1) fun μ1 =>
  o_seq (o_wI μ1 a0 3 (μ1.1 a0 6)) fun μ2 =>
  some (0, μ2)
noncomputable def fX4_fail (rf : Nat → Nat → Nat) (a0 : Nat) (x1 : Int32) (μ0 : o_Mem) : Option (Int32 × o_Mem) :=
  if (μ0.1 a0 7) = 4 then (
    fX4_fail_j14 rf a0 a0 1 μ0)
  else (
    fX4_fail_j14 rf a0 a0 x1 μ0)
set_option maxRecDepth 20000 in
theorem dnX4_fail_j14 {X : o_Cx} (hX : o_ok X) {d : Nat} {a0 : Nat} {b0 : Nat} {y1 : Int32} {μ0 : o_Mem} {q : Int32 → o_Mem → Prop} (h0 : o_is X a0 (.inl 4)) (hb0 : o_is X b0 (.inl 4)) (h : o_Post (fX4_fail_j14 (o_rf X) a0 b0 y1 μ0) q) : o_Ev X (d + 0) mX4_fail 14 [some (.ref (o_ad X a0)), none] [.int y1, .ref (o_ad X b0)] μ0 (o_QZ q) := by
  unfold fX4_fail_j14 at h
  refine s_putI hX hb0 fwX4_15 rfl dX4_fail_14 (o_gen h (fun μ1 h => ?_))
  refine s_aload_n (i := 0) dX4_fail_17 rfl rfl ?_
  refine s_aload_n (i := 0) dX4_fail_18 rfl rfl ?_
  refine s_getI h0 flX4_40 rfl dX4_fail_19 ?_
  refine s_putI hX h0 fwX4_19 rfl dX4_fail_22 (o_gen h (fun μ2 h => ?_))
  refine s_iconst dX4_fail_25 kI_0 ?_
  exact s_zreturn rfl (Or.inl rfl) dX4_fail_26 ⟨_, rfl, (Or.inl rfl), o_ret h⟩
set_option maxRecDepth 20000 in
theorem dnX4_fail {X : o_Cx} (hX : o_ok X) {d : Nat} {a0 : Nat} {x1 : Int32} {μ0 : o_Mem} {q : Int32 → o_Mem → Prop} (h0 : o_is X a0 (.inl 4)) (h : o_Post (fX4_fail (o_rf X) a0 x1 μ0) q) : o_Ev X (d + 0) mX4_fail 0 [some (.ref (o_ad X a0)), some (.int x1)] [] μ0 (o_QZ q) := by
  unfold fX4_fail at h
  refine s_aload_n (i := 0) dX4_fail_0 rfl rfl ?_
  refine s_aload_n (i := 0) dX4_fail_1 rfl rfl ?_
  refine s_getI h0 flX4_46 rfl dX4_fail_2 ?_
  refine s_iconst dX4_fail_5 kI_4 ?_
  refine s_icmp_ne (tgt := 13) dX4_fail_6 rfl (fun c1 => ?_) (fun c1 => ?_)
  · have h := o_if_f c1 h
    refine s_iload_n (i := 1) dX4_fail_13 rfl rfl ?_
    refine s_mask [true, false] (L' := [some (.ref (o_ad X a0)), none]) rfl ?_
    exact dnX4_fail_j14 hX h0 h0 h
  · have h := o_if_t c1 h
    refine s_iconst dX4_fail_9 kI_1 ?_
    refine s_goto (tgt := 14) dX4_fail_10 rfl ?_
    refine s_mask [true, false] (L' := [some (.ref (o_ad X a0)), none]) rfl ?_
    exact dnX4_fail_j14 hX h0 h0 h
theorem dX4_wantWord_0 : decode cX4_wantWord 0 = .ok (.aload_n 0, 1) := by decide +kernel
theorem dX4_wantWord_1 : decode cX4_wantWord 1 = .ok (.getfield 43, 3) := by decide +kernel
theorem dX4_wantWord_4 : decode cX4_wantWord 4 = .ok (.iload_n 1, 1) := by decide +kernel
theorem dX4_wantWord_5 : decode cX4_wantWord 5 = .ok (.if_icmp .eq 9, 3) := by decide +kernel
theorem dX4_wantWord_8 : decode cX4_wantWord 8 = .ok (.aload_n 0, 1) := by decide +kernel
theorem dX4_wantWord_9 : decode cX4_wantWord 9 = .ok (.iconst 2, 1) := by decide +kernel
theorem dX4_wantWord_10 : decode cX4_wantWord 10 = .ok (.invokevirtual 90, 3) := by decide +kernel
theorem dX4_wantWord_13 : decode cX4_wantWord 13 = .ok (.ireturn, 1) := by decide +kernel
theorem dX4_wantWord_14 : decode cX4_wantWord 14 = .ok (.aload_n 0, 1) := by decide +kernel
theorem dX4_wantWord_15 : decode cX4_wantWord 15 = .ok (.invokevirtual 37, 3) := by decide +kernel
theorem dX4_wantWord_18 : decode cX4_wantWord 18 = .ok (.iconst 1, 1) := by decide +kernel
theorem dX4_wantWord_19 : decode cX4_wantWord 19 = .ok (.ireturn, 1) := by decide +kernel
noncomputable def fX4_wantWord (rf : Nat → Nat → Nat) (a0 : Nat) (x1 : Int32) (μ0 : o_Mem) : Option (Int32 × o_Mem) :=
  if (μ0.1 a0 8) = x1 then (
    o_bd (fX4_next rf a0 μ0) fun _u μ1 =>
    some (1, μ1))
  else (
    o_bd (fX4_fail rf a0 2 μ0) fun r1 μ2 =>
    some (r1, μ2))
set_option maxRecDepth 20000 in
theorem dnX4_wantWord {X : o_Cx} (hX : o_ok X) {d : Nat} {a0 : Nat} {x1 : Int32} {μ0 : o_Mem} {q : Int32 → o_Mem → Prop} (h0 : o_is X a0 (.inl 4)) (h : o_Post (fX4_wantWord (o_rf X) a0 x1 μ0) q) : o_Ev X (d + 6) mX4_wantWord 0 [some (.ref (o_ad X a0)), some (.int x1)] [] μ0 (o_QZ q) := by
  unfold fX4_wantWord at h
  refine s_aload_n (i := 0) dX4_wantWord_0 rfl rfl ?_
  refine s_getI h0 flX4_43 rfl dX4_wantWord_1 ?_
  refine s_iload_n (i := 1) dX4_wantWord_4 rfl rfl ?_
  refine s_icmp_eq (tgt := 14) dX4_wantWord_5 rfl (fun c1 => ?_) (fun c1 => ?_)
  · have h := o_if_t c1 h
    refine s_aload_n (i := 0) dX4_wantWord_14 rfl rfl ?_
    refine s_callVu (C := mX4_next) (As := []) (rest := []) (L0 := [some (.ref (o_ad X a0))]) hX h0 clX4_37 dX4_wantWord_15 rfl rfl (Nat.le_of_ble_eq_true rfl) (Nat.le_of_ble_eq_true rfl) (dnX4_next hX h0 (o_bdp h)) (fun _u μ1 h => ?_)
    refine s_iconst dX4_wantWord_18 kI_1 ?_
    exact s_zreturn rfl (Or.inr rfl) dX4_wantWord_19 ⟨_, rfl, (Or.inr rfl), o_ret h⟩
  · have h := o_if_f c1 h
    refine s_aload_n (i := 0) dX4_wantWord_8 rfl rfl ?_
    refine s_iconst dX4_wantWord_9 kI_2 ?_
    refine s_callVz (C := mX4_fail) (As := [.int 2]) (rest := []) (L0 := [some (.ref (o_ad X a0)), some (.int 2)]) hX h0 clX4_90 dX4_wantWord_10 rfl rfl (Nat.le_of_ble_eq_true rfl) (Nat.le_of_ble_eq_true rfl) (dnX4_fail hX h0 (o_bdp h)) (fun r1 μ2 zr1 h => ?_)
    exact s_zreturn rfl zr1 dX4_wantWord_13 ⟨_, rfl, zr1, o_ret h⟩
theorem dX4_wantClose_0 : decode cX4_wantClose 0 = .ok (.aload_n 0, 1) := by decide +kernel
theorem dX4_wantClose_1 : decode cX4_wantClose 1 = .ok (.getfield 46, 3) := by decide +kernel
theorem dX4_wantClose_4 : decode cX4_wantClose 4 = .ok (.iconst 3, 1) := by decide +kernel
theorem dX4_wantClose_5 : decode cX4_wantClose 5 = .ok (.if_icmp .ne 12, 3) := by decide +kernel
theorem dX4_wantClose_8 : decode cX4_wantClose 8 = .ok (.aload_n 0, 1) := by decide +kernel
theorem dX4_wantClose_9 : decode cX4_wantClose 9 = .ok (.getfield 65, 3) := by decide +kernel
theorem dX4_wantClose_12 : decode cX4_wantClose 12 = .ok (.bipush 59, 2) := by decide +kernel
theorem dX4_wantClose_14 : decode cX4_wantClose 14 = .ok (.if_icmp .eq 9, 3) := by decide +kernel
theorem dX4_wantClose_17 : decode cX4_wantClose 17 = .ok (.aload_n 0, 1) := by decide +kernel
theorem dX4_wantClose_18 : decode cX4_wantClose 18 = .ok (.iconst 2, 1) := by decide +kernel
theorem dX4_wantClose_19 : decode cX4_wantClose 19 = .ok (.invokevirtual 90, 3) := by decide +kernel
theorem dX4_wantClose_22 : decode cX4_wantClose 22 = .ok (.ireturn, 1) := by decide +kernel
theorem dX4_wantClose_23 : decode cX4_wantClose 23 = .ok (.aload_n 0, 1) := by decide +kernel
theorem dX4_wantClose_24 : decode cX4_wantClose 24 = .ok (.invokevirtual 37, 3) := by decide +kernel
theorem dX4_wantClose_27 : decode cX4_wantClose 27 = .ok (.iconst 1, 1) := by decide +kernel
theorem dX4_wantClose_28 : decode cX4_wantClose 28 = .ok (.ireturn, 1) := by decide +kernel
noncomputable def fX4_wantClose_j17 (rf : Nat → Nat → Nat) (a0 : Nat) (μ0 : o_Mem) : Option (Int32 × o_Mem) :=
  o_bd (fX4_fail rf a0 2 μ0) fun r1 μ1 =>
  some (r1, μ1)
noncomputable def fX4_wantClose (rf : Nat → Nat → Nat) (a0 : Nat) (μ0 : o_Mem) : Option (Int32 × o_Mem) :=
  if (μ0.1 a0 7) = 3 then (
    if (μ0.1 a0 11) = 59 then (
      o_bd (fX4_next rf a0 μ0) fun _u μ1 =>
      some (1, μ1))
    else (
      fX4_wantClose_j17 rf a0 μ0))
  else (
    fX4_wantClose_j17 rf a0 μ0)
set_option maxRecDepth 20000 in
theorem dnX4_wantClose_j17 {X : o_Cx} (hX : o_ok X) {d : Nat} {a0 : Nat} {μ0 : o_Mem} {q : Int32 → o_Mem → Prop} (h0 : o_is X a0 (.inl 4)) (h : o_Post (fX4_wantClose_j17 (o_rf X) a0 μ0) q) : o_Ev X (d + 6) mX4_wantClose 17 [some (.ref (o_ad X a0))] [] μ0 (o_QZ q) := by
  unfold fX4_wantClose_j17 at h
  refine s_aload_n (i := 0) dX4_wantClose_17 rfl rfl ?_
  refine s_iconst dX4_wantClose_18 kI_2 ?_
  refine s_callVz (C := mX4_fail) (As := [.int 2]) (rest := []) (L0 := [some (.ref (o_ad X a0)), some (.int 2)]) hX h0 clX4_90 dX4_wantClose_19 rfl rfl (Nat.le_of_ble_eq_true rfl) (Nat.le_of_ble_eq_true rfl) (dnX4_fail hX h0 (o_bdp h)) (fun r1 μ1 zr1 h => ?_)
  exact s_zreturn rfl zr1 dX4_wantClose_22 ⟨_, rfl, zr1, o_ret h⟩
set_option maxRecDepth 20000 in
theorem dnX4_wantClose {X : o_Cx} (hX : o_ok X) {d : Nat} {a0 : Nat} {μ0 : o_Mem} {q : Int32 → o_Mem → Prop} (h0 : o_is X a0 (.inl 4)) (h : o_Post (fX4_wantClose (o_rf X) a0 μ0) q) : o_Ev X (d + 6) mX4_wantClose 0 [some (.ref (o_ad X a0))] [] μ0 (o_QZ q) := by
  unfold fX4_wantClose at h
  refine s_aload_n (i := 0) dX4_wantClose_0 rfl rfl ?_
  refine s_getI h0 flX4_46 rfl dX4_wantClose_1 ?_
  refine s_iconst dX4_wantClose_4 kI_3 ?_
  refine s_icmp_ne (tgt := 17) dX4_wantClose_5 rfl (fun c1 => ?_) (fun c1 => ?_)
  · have h := o_if_f c1 h
    refine s_mask [true] (L' := [some (.ref (o_ad X a0))]) rfl ?_
    exact dnX4_wantClose_j17 hX h0 h
  · have h := o_if_t c1 h
    refine s_aload_n (i := 0) dX4_wantClose_8 rfl rfl ?_
    refine s_getI h0 flX4_65 rfl dX4_wantClose_9 ?_
    refine s_bipush dX4_wantClose_12 kB_59 ?_
    refine s_icmp_eq (tgt := 23) dX4_wantClose_14 rfl (fun c1 => ?_) (fun c1 => ?_)
    · have h := o_if_t c1 h
      refine s_aload_n (i := 0) dX4_wantClose_23 rfl rfl ?_
      refine s_callVu (C := mX4_next) (As := []) (rest := []) (L0 := [some (.ref (o_ad X a0))]) hX h0 clX4_37 dX4_wantClose_24 rfl rfl (Nat.le_of_ble_eq_true rfl) (Nat.le_of_ble_eq_true rfl) (dnX4_next hX h0 (o_bdp h)) (fun _u μ1 h => ?_)
      refine s_iconst dX4_wantClose_27 kI_1 ?_
      exact s_zreturn rfl (Or.inr rfl) dX4_wantClose_28 ⟨_, rfl, (Or.inr rfl), o_ret h⟩
    · have h := o_if_f c1 h
      refine s_mask [true] (L' := [some (.ref (o_ad X a0))]) rfl ?_
      exact dnX4_wantClose_j17 hX h0 h
theorem dX4_wantNumber_0 : decode cX4_wantNumber 0 = .ok (.aload_n 0, 1) := by decide +kernel
theorem dX4_wantNumber_1 : decode cX4_wantNumber 1 = .ok (.getfield 46, 3) := by decide +kernel
theorem dX4_wantNumber_4 : decode cX4_wantNumber 4 = .ok (.iconst 2, 1) := by decide +kernel
theorem dX4_wantNumber_5 : decode cX4_wantNumber 5 = .ok (.if_icmp .ne 19, 3) := by decide +kernel
theorem dX4_wantNumber_8 : decode cX4_wantNumber 8 = .ok (.aload_n 0, 1) := by decide +kernel
theorem dX4_wantNumber_9 : decode cX4_wantNumber 9 = .ok (.getfield 87, 3) := by decide +kernel
theorem dX4_wantNumber_12 : decode cX4_wantNumber 12 = .ok (.iload_n 1, 1) := by decide +kernel
theorem dX4_wantNumber_13 : decode cX4_wantNumber 13 = .ok (.if_icmp .lt 11, 3) := by decide +kernel
theorem dX4_wantNumber_16 : decode cX4_wantNumber 16 = .ok (.aload_n 0, 1) := by decide +kernel
theorem dX4_wantNumber_17 : decode cX4_wantNumber 17 = .ok (.getfield 87, 3) := by decide +kernel
theorem dX4_wantNumber_20 : decode cX4_wantNumber 20 = .ok (.iload_n 2, 1) := by decide +kernel
theorem dX4_wantNumber_21 : decode cX4_wantNumber 21 = .ok (.if_icmp .le 23, 3) := by decide +kernel
theorem dX4_wantNumber_24 : decode cX4_wantNumber 24 = .ok (.aload_n 0, 1) := by decide +kernel
theorem dX4_wantNumber_25 : decode cX4_wantNumber 25 = .ok (.aload_n 0, 1) := by decide +kernel
theorem dX4_wantNumber_26 : decode cX4_wantNumber 26 = .ok (.getfield 46, 3) := by decide +kernel
theorem dX4_wantNumber_29 : decode cX4_wantNumber 29 = .ok (.iconst 2, 1) := by decide +kernel
theorem dX4_wantNumber_30 : decode cX4_wantNumber 30 = .ok (.if_icmp .ne 7, 3) := by decide +kernel
theorem dX4_wantNumber_33 : decode cX4_wantNumber 33 = .ok (.iconst 4, 1) := by decide +kernel
theorem dX4_wantNumber_34 : decode cX4_wantNumber 34 = .ok (.goto 4, 3) := by decide +kernel
theorem dX4_wantNumber_37 : decode cX4_wantNumber 37 = .ok (.iconst 2, 1) := by decide +kernel
theorem dX4_wantNumber_38 : decode cX4_wantNumber 38 = .ok (.invokevirtual 90, 3) := by decide +kernel
theorem dX4_wantNumber_41 : decode cX4_wantNumber 41 = .ok (.pop, 1) := by decide +kernel
theorem dX4_wantNumber_42 : decode cX4_wantNumber 42 = .ok (.iconst (-1), 1) := by decide +kernel
theorem dX4_wantNumber_43 : decode cX4_wantNumber 43 = .ok (.ireturn, 1) := by decide +kernel
theorem dX4_wantNumber_44 : decode cX4_wantNumber 44 = .ok (.aload_n 0, 1) := by decide +kernel
theorem dX4_wantNumber_45 : decode cX4_wantNumber 45 = .ok (.getfield 87, 3) := by decide +kernel
theorem dX4_wantNumber_48 : decode cX4_wantNumber 48 = .ok (.istore_n 3, 1) := by decide +kernel
theorem dX4_wantNumber_49 : decode cX4_wantNumber 49 = .ok (.aload_n 0, 1) := by decide +kernel
theorem dX4_wantNumber_50 : decode cX4_wantNumber 50 = .ok (.invokevirtual 37, 3) := by decide +kernel
theorem dX4_wantNumber_53 : decode cX4_wantNumber 53 = .ok (.iload_n 3, 1) := by decide +kernel
theorem dX4_wantNumber_54 : decode cX4_wantNumber 54 = .ok (.ireturn, 1) := by decide +kernel
noncomputable def fX4_wantNumber_j38 (rf : Nat → Nat → Nat) (b0 : Nat) (y1 : Int32) (μ0 : o_Mem) : Option (Int32 × o_Mem) :=
  o_bd (fX4_fail rf b0 y1 μ0) fun r1 μ1 =>
  some ((-1), μ1)
noncomputable def fX4_wantNumber_j24 (rf : Nat → Nat → Nat) (a0 : Nat) (μ0 : o_Mem) : Option (Int32 × o_Mem) :=
  if (μ0.1 a0 7) = 2 then (
    fX4_wantNumber_j38 rf a0 4 μ0)
  else (
    fX4_wantNumber_j38 rf a0 2 μ0)
noncomputable def fX4_wantNumber (rf : Nat → Nat → Nat) (a0 : Nat) (x1 : Int32) (x2 : Int32) (μ0 : o_Mem) : Option (Int32 × o_Mem) :=
  if (μ0.1 a0 7) = 2 then (
    if (μ0.1 a0 10) < x1 then (
      fX4_wantNumber_j24 rf a0 μ0)
    else (
      if (μ0.1 a0 10) ≤ x2 then (
        o_bd (fX4_next rf a0 μ0) fun _u μ1 =>
        some ((μ0.1 a0 10), μ1))
      else (
        fX4_wantNumber_j24 rf a0 μ0)))
  else (
    fX4_wantNumber_j24 rf a0 μ0)
set_option maxRecDepth 20000 in
theorem dnX4_wantNumber_j38 {X : o_Cx} (hX : o_ok X) {d : Nat} {b0 : Nat} {y1 : Int32} {μ0 : o_Mem} {q : Int32 → o_Mem → Prop} (hb0 : o_is X b0 (.inl 4)) (h : o_Post (fX4_wantNumber_j38 (o_rf X) b0 y1 μ0) q) : o_Ev X (d + 6) mX4_wantNumber 38 [none, none, none, none] [.int y1, .ref (o_ad X b0)] μ0 (o_QI q) := by
  unfold fX4_wantNumber_j38 at h
  refine s_callVz (C := mX4_fail) (As := [.int y1]) (rest := []) (L0 := [some (.ref (o_ad X b0)), some (.int y1)]) hX hb0 clX4_90 dX4_wantNumber_38 rfl rfl (Nat.le_of_ble_eq_true rfl) (Nat.le_of_ble_eq_true rfl) (dnX4_fail hX hb0 (o_bdp h)) (fun r1 μ1 zr1 h => ?_)
  refine s_pop dX4_wantNumber_41 rfl ?_
  refine s_iconst dX4_wantNumber_42 kI_m1 ?_
  exact s_ireturn rfl dX4_wantNumber_43 ⟨_, rfl, o_ret h⟩
set_option maxRecDepth 20000 in
theorem dnX4_wantNumber_j24 {X : o_Cx} (hX : o_ok X) {d : Nat} {a0 : Nat} {μ0 : o_Mem} {q : Int32 → o_Mem → Prop} (h0 : o_is X a0 (.inl 4)) (h : o_Post (fX4_wantNumber_j24 (o_rf X) a0 μ0) q) : o_Ev X (d + 6) mX4_wantNumber 24 [some (.ref (o_ad X a0)), none, none, none] [] μ0 (o_QI q) := by
  unfold fX4_wantNumber_j24 at h
  refine s_aload_n (i := 0) dX4_wantNumber_24 rfl rfl ?_
  refine s_aload_n (i := 0) dX4_wantNumber_25 rfl rfl ?_
  refine s_getI h0 flX4_46 rfl dX4_wantNumber_26 ?_
  refine s_iconst dX4_wantNumber_29 kI_2 ?_
  refine s_icmp_ne (tgt := 37) dX4_wantNumber_30 rfl (fun c1 => ?_) (fun c1 => ?_)
  · have h := o_if_f c1 h
    refine s_iconst dX4_wantNumber_37 kI_2 ?_
    refine s_mask [false, false, false, false] (L' := [none, none, none, none]) rfl ?_
    exact dnX4_wantNumber_j38 hX h0 h
  · have h := o_if_t c1 h
    refine s_iconst dX4_wantNumber_33 kI_4 ?_
    refine s_goto (tgt := 38) dX4_wantNumber_34 rfl ?_
    refine s_mask [false, false, false, false] (L' := [none, none, none, none]) rfl ?_
    exact dnX4_wantNumber_j38 hX h0 h
set_option maxRecDepth 20000 in
theorem dnX4_wantNumber {X : o_Cx} (hX : o_ok X) {d : Nat} {a0 : Nat} {x1 : Int32} {x2 : Int32} {μ0 : o_Mem} {q : Int32 → o_Mem → Prop} (h0 : o_is X a0 (.inl 4)) (h : o_Post (fX4_wantNumber (o_rf X) a0 x1 x2 μ0) q) : o_Ev X (d + 6) mX4_wantNumber 0 [some (.ref (o_ad X a0)), some (.int x1), some (.int x2), none] [] μ0 (o_QI q) := by
  unfold fX4_wantNumber at h
  refine s_aload_n (i := 0) dX4_wantNumber_0 rfl rfl ?_
  refine s_getI h0 flX4_46 rfl dX4_wantNumber_1 ?_
  refine s_iconst dX4_wantNumber_4 kI_2 ?_
  refine s_icmp_ne (tgt := 24) dX4_wantNumber_5 rfl (fun c1 => ?_) (fun c1 => ?_)
  · have h := o_if_f c1 h
    refine s_mask [true, false, false, false] (L' := [some (.ref (o_ad X a0)), none, none, none]) rfl ?_
    exact dnX4_wantNumber_j24 hX h0 h
  · have h := o_if_t c1 h
    refine s_aload_n (i := 0) dX4_wantNumber_8 rfl rfl ?_
    refine s_getI h0 flX4_87 rfl dX4_wantNumber_9 ?_
    refine s_iload_n (i := 1) dX4_wantNumber_12 rfl rfl ?_
    refine s_icmp_lt (tgt := 24) dX4_wantNumber_13 rfl (fun c1 => ?_) (fun c1 => ?_)
    · have h := o_if_t c1 h
      refine s_mask [true, false, false, false] (L' := [some (.ref (o_ad X a0)), none, none, none]) rfl ?_
      exact dnX4_wantNumber_j24 hX h0 h
    · have h := o_if_f c1 h
      refine s_aload_n (i := 0) dX4_wantNumber_16 rfl rfl ?_
      refine s_getI h0 flX4_87 rfl dX4_wantNumber_17 ?_
      refine s_iload_n (i := 2) dX4_wantNumber_20 rfl rfl ?_
      refine s_icmp_le (tgt := 44) dX4_wantNumber_21 rfl (fun c1 => ?_) (fun c1 => ?_)
      · have h := o_if_t c1 h
        refine s_aload_n (i := 0) dX4_wantNumber_44 rfl rfl ?_
        refine s_getI h0 flX4_87 rfl dX4_wantNumber_45 ?_
        refine s_istore_n (i := 3) dX4_wantNumber_48 rfl (Nat.le_of_ble_eq_true rfl) rfl ?_
        refine s_aload_n (i := 0) dX4_wantNumber_49 rfl rfl ?_
        refine s_callVu (C := mX4_next) (As := []) (rest := []) (L0 := [some (.ref (o_ad X a0))]) hX h0 clX4_37 dX4_wantNumber_50 rfl rfl (Nat.le_of_ble_eq_true rfl) (Nat.le_of_ble_eq_true rfl) (dnX4_next hX h0 (o_bdp h)) (fun _u μ1 h => ?_)
        refine s_iload_n (i := 3) dX4_wantNumber_53 rfl rfl ?_
        exact s_ireturn rfl dX4_wantNumber_54 ⟨_, rfl, o_ret h⟩
      · have h := o_if_f c1 h
        refine s_mask [true, false, false, false] (L' := [some (.ref (o_ad X a0)), none, none, none]) rfl ?_
        exact dnX4_wantNumber_j24 hX h0 h
