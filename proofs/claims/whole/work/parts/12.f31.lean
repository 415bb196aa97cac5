theorem dX12_copies_0 : decode cX12_copies 0 = .ok (.iconst 0, 1) := by decide +kernel
theorem dX12_copies_1 : decode cX12_copies 1 = .ok (.istore_n 3, 1) := by decide +kernel
theorem dX12_copies_2 : decode cX12_copies 2 = .ok (.iload_n 3, 1) := by decide +kernel
theorem dX12_copies_3 : decode cX12_copies 3 = .ok (.sipush 626, 3) := by decide +kernel
theorem dX12_copies_6 : decode cX12_copies 6 = .ok (.if_icmp .ge 33, 3) := by decide +kernel
theorem dX12_copies_9 : decode cX12_copies 9 = .ok (.aload_n 0, 1) := by decide +kernel
theorem dX12_copies_10 : decode cX12_copies 10 = .ok (.getfield 7, 3) := by decide +kernel
theorem dX12_copies_13 : decode cX12_copies 13 = .ok (.sipush 626, 3) := by decide +kernel
theorem dX12_copies_16 : decode cX12_copies 16 = .ok (.iload_n 2, 1) := by decide +kernel
theorem dX12_copies_17 : decode cX12_copies 17 = .ok (.imul, 1) := by decide +kernel
theorem dX12_copies_18 : decode cX12_copies 18 = .ok (.iload_n 3, 1) := by decide +kernel
theorem dX12_copies_19 : decode cX12_copies 19 = .ok (.iadd, 1) := by decide +kernel
theorem dX12_copies_20 : decode cX12_copies 20 = .ok (.aload_n 0, 1) := by decide +kernel
theorem dX12_copies_21 : decode cX12_copies 21 = .ok (.getfield 7, 3) := by decide +kernel
theorem dX12_copies_24 : decode cX12_copies 24 = .ok (.sipush 626, 3) := by decide +kernel
theorem dX12_copies_27 : decode cX12_copies 27 = .ok (.iload_n 1, 1) := by decide +kernel
theorem dX12_copies_28 : decode cX12_copies 28 = .ok (.imul, 1) := by decide +kernel
theorem dX12_copies_29 : decode cX12_copies 29 = .ok (.iload_n 3, 1) := by decide +kernel
theorem dX12_copies_30 : decode cX12_copies 30 = .ok (.iadd, 1) := by decide +kernel
theorem dX12_copies_31 : decode cX12_copies 31 = .ok (.iaload, 1) := by decide +kernel
theorem dX12_copies_32 : decode cX12_copies 32 = .ok (.iastore, 1) := by decide +kernel
theorem dX12_copies_33 : decode cX12_copies 33 = .ok (.iinc 3 1, 3) := by decide +kernel
theorem dX12_copies_36 : decode cX12_copies 36 = .ok (.goto (-34), 3) := by decide +kernel
theorem dX12_copies_39 : decode cX12_copies 39 = .ok (.iconst 0, 1) := by decide +kernel
theorem dX12_copies_40 : decode cX12_copies 40 = .ok (.istore_n 3, 1) := by decide +kernel
theorem dX12_copies_41 : decode cX12_copies 41 = .ok (.iload_n 3, 1) := by decide +kernel
theorem dX12_copies_42 : decode cX12_copies 42 = .ok (.bipush 16, 2) := by decide +kernel
theorem dX12_copies_44 : decode cX12_copies 44 = .ok (.if_icmp .ge 31, 3) := by decide +kernel
theorem dX12_copies_47 : decode cX12_copies 47 = .ok (.aload_n 0, 1) := by decide +kernel
theorem dX12_copies_48 : decode cX12_copies 48 = .ok (.getfield 13, 3) := by decide +kernel
theorem dX12_copies_51 : decode cX12_copies 51 = .ok (.bipush 16, 2) := by decide +kernel
theorem dX12_copies_53 : decode cX12_copies 53 = .ok (.iload_n 2, 1) := by decide +kernel
theorem dX12_copies_54 : decode cX12_copies 54 = .ok (.imul, 1) := by decide +kernel
theorem dX12_copies_55 : decode cX12_copies 55 = .ok (.iload_n 3, 1) := by decide +kernel
theorem dX12_copies_56 : decode cX12_copies 56 = .ok (.iadd, 1) := by decide +kernel
theorem dX12_copies_57 : decode cX12_copies 57 = .ok (.aload_n 0, 1) := by decide +kernel
theorem dX12_copies_58 : decode cX12_copies 58 = .ok (.getfield 13, 3) := by decide +kernel
theorem dX12_copies_61 : decode cX12_copies 61 = .ok (.bipush 16, 2) := by decide +kernel
theorem dX12_copies_63 : decode cX12_copies 63 = .ok (.iload_n 1, 1) := by decide +kernel
theorem dX12_copies_64 : decode cX12_copies 64 = .ok (.imul, 1) := by decide +kernel
theorem dX12_copies_65 : decode cX12_copies 65 = .ok (.iload_n 3, 1) := by decide +kernel
theorem dX12_copies_66 : decode cX12_copies 66 = .ok (.iadd, 1) := by decide +kernel
theorem dX12_copies_67 : decode cX12_copies 67 = .ok (.laload, 1) := by decide +kernel
theorem dX12_copies_68 : decode cX12_copies 68 = .ok (.lastore, 1) := by decide +kernel
theorem dX12_copies_69 : decode cX12_copies 69 = .ok (.iinc 3 1, 3) := by decide +kernel
theorem dX12_copies_72 : decode cX12_copies 72 = .ok (.goto (-31), 3) := by decide +kernel
theorem dX12_copies_75 : decode cX12_copies 75 = .ok (.return_, 1) := by decide +kernel
noncomputable def fX12_copies_s2 (rf : Nat → Nat → Nat) (a0 : Nat) (x1 : Int32) (x2 : Int32) (τ2 : Int32) (μ0 : o_Mem) : Option ((Nat × (Int32)) × o_Mem) :=
  if 626 ≤ τ2 then (
    some ((39, 0), μ0))
  else (
    o_ck (0 ≤ (((626 * x1) + τ2)).toInt ∧ (((626 * x1) + τ2)).toInt < 3756) <|
    o_ck (0 ≤ (((626 * x2) + τ2)).toInt ∧ (((626 * x2) + τ2)).toInt < 3756) <|
    o_seq (o_wI μ0 (rf a0 0) ((((626 * x2) + τ2)).toNatClampNeg) (μ0.1 (rf a0 0) (((626 * x1) + τ2)).toNatClampNeg)) fun μ1 =>
    some ((2, (τ2 + 1)), μ1))
noncomputable def fX12_copies_s41 (rf : Nat → Nat → Nat) (a0 : Nat) (x1 : Int32) (x2 : Int32) (τ41 : Int32) (μ0 : o_Mem) : Option ((Nat × (Int32)) × o_Mem) :=
  if 16 ≤ τ41 then (
    some ((75, 0), μ0))
  else (
    o_ck (0 ≤ (((16 * x1) + τ41)).toInt ∧ (((16 * x1) + τ41)).toInt < 96) <|
    o_ck (0 ≤ (((16 * x2) + τ41)).toInt ∧ (((16 * x2) + τ41)).toInt < 96) <|
    o_seq (o_wL μ0 (rf a0 1) ((((16 * x2) + τ41)).toNatClampNeg) (μ0.2 (rf a0 1) (((16 * x1) + τ41)).toNatClampNeg)) fun μ1 =>
    some ((41, (τ41 + 1)), μ1))
noncomputable def fX12_copies (rf : Nat → Nat → Nat) (a0 : Nat) (x1 : Int32) (x2 : Int32) (μ0 : o_Mem) : Option (Unit × o_Mem) :=
  o_bd (o_lp 2 (fX12_copies_s2 rf a0 x1 x2) o_fuel (0 : Int32) μ0) fun ex1 μ1 =>
  if ex1.1 = 39 then (
    o_bd (o_lp 41 (fX12_copies_s41 rf a0 x1 x2) o_fuel (0 : Int32) μ1) fun ex2 μ2 =>
    if ex2.1 = 75 then (
      some ((), μ2))
    else
      none)
  else
    none
set_option maxRecDepth 20000 in
theorem dnX12_copies_s2 {X : o_Cx} (hX : o_ok X) {d : Nat} {a0 : Nat} {x1 : Int32} {x2 : Int32} {τ2 : Int32} {μ0 : o_Mem} {K : (Nat × (Int32)) → o_Mem → Prop} {Q : Option Value → o_Mem → Prop} (h0 : o_is X a0 (.inl 12)) (h : o_Post (fX12_copies_s2 (o_rf X) a0 x1 x2 τ2 μ0) K) (kh : ∀ (τ2 : Int32) (μ : o_Mem), K (2, τ2) μ → o_Ev X (d + 0) mX12_copies 2 [some (.ref (o_ad X a0)), some (.int x1), some (.int x2), some (.int τ2)] [] μ Q) (k39 : ∀ (τ2 : Int32) (μ : o_Mem), K (39, τ2) μ → o_Ev X (d + 0) mX12_copies 39 [some (.ref (o_ad X a0)), some (.int x1), some (.int x2), none] [] μ Q) : o_Ev X (d + 0) mX12_copies 2 [some (.ref (o_ad X a0)), some (.int x1), some (.int x2), some (.int τ2)] [] μ0 Q := by
  unfold fX12_copies_s2 at h
  refine s_iload_n (i := 3) dX12_copies_2 rfl rfl ?_
  refine s_sipush dX12_copies_3 kS_626 ?_
  refine s_icmp_ge (tgt := 39) dX12_copies_6 rfl (fun c1 => ?_) (fun c1 => ?_)
  · have h := o_if_t c1 h
    refine s_mask [true, true, true, false] (L' := [some (.ref (o_ad X a0)), some (.int x1), some (.int x2), none]) rfl ?_
    exact k39 0 _ (o_ret h)
  · have h := o_if_f c1 h
    refine s_aload_n (i := 0) dX12_copies_9 rfl rfl ?_
    refine s_getR hX h0 flX12_7 rfl dX12_copies_10 (fun (g1 : o_is X (o_rf X a0 0) (.inr (0, 3756))) => ?_)
    refine s_sipush dX12_copies_13 kS_626 ?_
    refine s_iload_n (i := 2) dX12_copies_16 rfl rfl ?_
    refine s_imul dX12_copies_17 ?_
    refine s_iload_n (i := 3) dX12_copies_18 rfl rfl ?_
    refine s_iadd dX12_copies_19 ?_
    refine s_aload_n (i := 0) dX12_copies_20 rfl rfl ?_
    refine s_getR hX h0 flX12_7 rfl dX12_copies_21 (fun (g2 : o_is X (o_rf X a0 0) (.inr (0, 3756))) => ?_)
    refine s_sipush dX12_copies_24 kS_626 ?_
    refine s_iload_n (i := 1) dX12_copies_27 rfl rfl ?_
    refine s_imul dX12_copies_28 ?_
    refine s_iload_n (i := 3) dX12_copies_29 rfl rfl ?_
    refine s_iadd dX12_copies_30 ?_
    have hc := o_ck_c h
    have h := o_ck_k h
    refine s_ialdK g2 hc rfl dX12_copies_31 ?_
    have hc := o_ck_c h
    have h := o_ck_k h
    refine s_iastK hX g1 hc rfl dX12_copies_32 (o_gen h (fun μ1 h => ?_))
    refine s_iinc (v := (τ2 + 1)) dX12_copies_33 rfl rfl (Nat.le_of_ble_eq_true rfl) rfl ?_
    refine s_goto (tgt := 2) dX12_copies_36 rfl ?_
    refine s_mask [true, true, true, true] (L' := [some (.ref (o_ad X a0)), some (.int x1), some (.int x2), some (.int (τ2 + 1))]) rfl ?_
    exact kh (τ2 + 1) _ (o_ret h)
set_option maxRecDepth 20000 in
theorem dnX12_copies_s41 {X : o_Cx} (hX : o_ok X) {d : Nat} {a0 : Nat} {x1 : Int32} {x2 : Int32} {τ41 : Int32} {μ0 : o_Mem} {K : (Nat × (Int32)) → o_Mem → Prop} {Q : Option Value → o_Mem → Prop} (h0 : o_is X a0 (.inl 12)) (h : o_Post (fX12_copies_s41 (o_rf X) a0 x1 x2 τ41 μ0) K) (kh : ∀ (τ41 : Int32) (μ : o_Mem), K (41, τ41) μ → o_Ev X (d + 0) mX12_copies 41 [some (.ref (o_ad X a0)), some (.int x1), some (.int x2), some (.int τ41)] [] μ Q) (k75 : ∀ (τ41 : Int32) (μ : o_Mem), K (75, τ41) μ → o_Ev X (d + 0) mX12_copies 75 [none, none, none, none] [] μ Q) : o_Ev X (d + 0) mX12_copies 41 [some (.ref (o_ad X a0)), some (.int x1), some (.int x2), some (.int τ41)] [] μ0 Q := by
  unfold fX12_copies_s41 at h
  refine s_iload_n (i := 3) dX12_copies_41 rfl rfl ?_
  refine s_bipush dX12_copies_42 kB_16 ?_
  refine s_icmp_ge (tgt := 75) dX12_copies_44 rfl (fun c1 => ?_) (fun c1 => ?_)
  · have h := o_if_t c1 h
    refine s_mask [false, false, false, false] (L' := [none, none, none, none]) rfl ?_
    exact k75 0 _ (o_ret h)
  · have h := o_if_f c1 h
    refine s_aload_n (i := 0) dX12_copies_47 rfl rfl ?_
    refine s_getR hX h0 flX12_13 rfl dX12_copies_48 (fun (g1 : o_is X (o_rf X a0 1) (.inr (2, 96))) => ?_)
    refine s_bipush dX12_copies_51 kB_16 ?_
    refine s_iload_n (i := 2) dX12_copies_53 rfl rfl ?_
    refine s_imul dX12_copies_54 ?_
    refine s_iload_n (i := 3) dX12_copies_55 rfl rfl ?_
    refine s_iadd dX12_copies_56 ?_
    refine s_aload_n (i := 0) dX12_copies_57 rfl rfl ?_
    refine s_getR hX h0 flX12_13 rfl dX12_copies_58 (fun (g2 : o_is X (o_rf X a0 1) (.inr (2, 96))) => ?_)
    refine s_bipush dX12_copies_61 kB_16 ?_
    refine s_iload_n (i := 1) dX12_copies_63 rfl rfl ?_
    refine s_imul dX12_copies_64 ?_
    refine s_iload_n (i := 3) dX12_copies_65 rfl rfl ?_
    refine s_iadd dX12_copies_66 ?_
    have hc := o_ck_c h
    have h := o_ck_k h
    refine s_laldK g2 hc rfl dX12_copies_67 ?_
    have hc := o_ck_c h
    have h := o_ck_k h
    refine s_lastK hX g1 hc rfl dX12_copies_68 (o_gen h (fun μ1 h => ?_))
    refine s_iinc (v := (τ41 + 1)) dX12_copies_69 rfl rfl (Nat.le_of_ble_eq_true rfl) rfl ?_
    refine s_goto (tgt := 41) dX12_copies_72 rfl ?_
    refine s_mask [true, true, true, true] (L' := [some (.ref (o_ad X a0)), some (.int x1), some (.int x2), some (.int (τ41 + 1))]) rfl ?_
    exact kh (τ41 + 1) _ (o_ret h)
set_option maxRecDepth 20000 in
theorem dnX12_copies {X : o_Cx} (hX : o_ok X) {d : Nat} {a0 : Nat} {x1 : Int32} {x2 : Int32} {μ0 : o_Mem} {q : Unit → o_Mem → Prop} (h0 : o_is X a0 (.inl 12)) (h : o_Post (fX12_copies (o_rf X) a0 x1 x2 μ0) q) : o_Ev X (d + 0) mX12_copies 0 [some (.ref (o_ad X a0)), some (.int x1), some (.int x2), none] [] μ0 (o_QU q) := by
  unfold fX12_copies at h
  refine s_iconst dX12_copies_0 kI_0 ?_
  refine s_istore_n (i := 3) dX12_copies_1 rfl (Nat.le_of_ble_eq_true rfl) rfl ?_
  refine s_mask [true, true, true, true] (L' := [some (.ref (o_ad X a0)), some (.int x1), some (.int x2), some (.int 0)]) rfl ?_
  refine o_lp_ev (fun τ2 => [some (.ref (o_ad X a0)), some (.int x1), some (.int x2), some (.int τ2)]) (fun τ2 μ _K h kv ke2 => dnX12_copies_s2 hX h0 h kv (fun τ2 μ1 h => ?_)) o_fuel 0 μ0 (o_bdp h)
  · have h := o_if_t rfl (ke2 (39, τ2) μ1 (o_ne rfl) h)
    refine s_iconst dX12_copies_39 kI_0 ?_
    refine s_istore_n (i := 3) dX12_copies_40 rfl (Nat.le_of_ble_eq_true rfl) rfl ?_
    refine s_mask [true, true, true, true] (L' := [some (.ref (o_ad X a0)), some (.int x1), some (.int x2), some (.int 0)]) rfl ?_
    refine o_lp_ev (fun τ41 => [some (.ref (o_ad X a0)), some (.int x1), some (.int x2), some (.int τ41)]) (fun τ41 μ _K h kv ke41 => dnX12_copies_s41 hX h0 h kv (fun τ41 μ2 h => ?_)) o_fuel 0 μ1 (o_bdp h)
    · have h := o_if_t rfl (ke41 (75, τ41) μ2 (o_ne rfl) h)
      exact s_return rfl dX12_copies_75 ⟨rfl, o_ret h⟩
theorem dX12_mark_0 : decode cX12_mark 0 = .ok (.aload_n 0, 1) := by decide +kernel
theorem dX12_mark_1 : decode cX12_mark 1 = .ok (.getfield 490, 3) := by decide +kernel
theorem dX12_mark_4 : decode cX12_mark 4 = .ok (.iconst 3, 1) := by decide +kernel
theorem dX12_mark_5 : decode cX12_mark 5 = .ok (.if_icmp .ne 9, 3) := by decide +kernel
theorem dX12_mark_8 : decode cX12_mark 8 = .ok (.aload_n 0, 1) := by decide +kernel
theorem dX12_mark_9 : decode cX12_mark 9 = .ok (.iconst 4, 1) := by decide +kernel
theorem dX12_mark_10 : decode cX12_mark 10 = .ok (.invokevirtual 87, 3) := by decide +kernel
theorem dX12_mark_13 : decode cX12_mark 13 = .ok (.ireturn, 1) := by decide +kernel
theorem dX12_mark_14 : decode cX12_mark 14 = .ok (.aload_n 0, 1) := by decide +kernel
theorem dX12_mark_15 : decode cX12_mark 15 = .ok (.dup, 1) := by decide +kernel
theorem dX12_mark_16 : decode cX12_mark 16 = .ok (.getfield 490, 3) := by decide +kernel
theorem dX12_mark_19 : decode cX12_mark 19 = .ok (.iconst 1, 1) := by decide +kernel
theorem dX12_mark_20 : decode cX12_mark 20 = .ok (.iadd, 1) := by decide +kernel
theorem dX12_mark_21 : decode cX12_mark 21 = .ok (.putfield 490, 3) := by decide +kernel
theorem dX12_mark_24 : decode cX12_mark 24 = .ok (.aload_n 0, 1) := by decide +kernel
theorem dX12_mark_25 : decode cX12_mark 25 = .ok (.iconst 0, 1) := by decide +kernel
theorem dX12_mark_26 : decode cX12_mark 26 = .ok (.aload_n 0, 1) := by decide +kernel
theorem dX12_mark_27 : decode cX12_mark 27 = .ok (.getfield 490, 3) := by decide +kernel
theorem dX12_mark_30 : decode cX12_mark 30 = .ok (.invokevirtual 493, 3) := by decide +kernel
theorem dX12_mark_33 : decode cX12_mark 33 = .ok (.aload_n 0, 1) := by decide +kernel
theorem dX12_mark_34 : decode cX12_mark 34 = .ok (.aload_n 0, 1) := by decide +kernel
theorem dX12_mark_35 : decode cX12_mark 35 = .ok (.getfield 490, 3) := by decide +kernel
theorem dX12_mark_38 : decode cX12_mark 38 = .ok (.invokevirtual 91, 3) := by decide +kernel
theorem dX12_mark_41 : decode cX12_mark 41 = .ok (.ireturn, 1) := by decide +kernel
noncomputable def fX12_mark (rf : Nat → Nat → Nat) (a0 : Nat) (μ0 : o_Mem) : Option (Int32 × o_Mem) :=
  if (μ0.1 a0 38) = 3 then (
    o_bd (fX12_refuse rf a0 4 μ0) fun r2 μ4 =>
    some (r2, μ4))
  else (
    o_seq (o_wI μ0 a0 38 ((μ0.1 a0 38) + 1)) fun μ1 =>
    o_bd (fX12_copies rf a0 0 (μ1.1 a0 38) μ1) fun _u μ2 =>
    o_bd (fX12_gives rf a0 (μ2.1 a0 38) μ2) fun r1 μ3 =>
    some (r1, μ3))
set_option maxRecDepth 20000 in
theorem dnX12_mark {X : o_Cx} (hX : o_ok X) {d : Nat} {a0 : Nat} {μ0 : o_Mem} {q : Int32 → o_Mem → Prop} (h0 : o_is X a0 (.inl 12)) (h : o_Post (fX12_mark (o_rf X) a0 μ0) q) : o_Ev X (d + 1) mX12_mark 0 [some (.ref (o_ad X a0))] [] μ0 (o_QI q) := by
  unfold fX12_mark at h
  refine s_aload_n (i := 0) dX12_mark_0 rfl rfl ?_
  refine s_getI h0 flX12_490 rfl dX12_mark_1 ?_
  refine s_iconst dX12_mark_4 kI_3 ?_
  refine s_icmp_ne (tgt := 14) dX12_mark_5 rfl (fun c1 => ?_) (fun c1 => ?_)
  · have h := o_if_f c1 h
    refine s_aload_n (i := 0) dX12_mark_14 rfl rfl ?_
    refine s_dup dX12_mark_15 rfl ?_
    refine s_getI h0 flX12_490 rfl dX12_mark_16 ?_
    refine s_iconst dX12_mark_19 kI_1 ?_
    refine s_iadd dX12_mark_20 ?_
    refine s_putI hX h0 fwX12_490 rfl dX12_mark_21 (o_gen h (fun μ1 h => ?_))
    refine s_aload_n (i := 0) dX12_mark_24 rfl rfl ?_
    refine s_iconst dX12_mark_25 kI_0 ?_
    refine s_aload_n (i := 0) dX12_mark_26 rfl rfl ?_
    refine s_getI h0 flX12_490 rfl dX12_mark_27 ?_
    refine s_callVu (C := mX12_copies) (As := [.int 0, .int (μ1.1 a0 38)]) (rest := []) (L0 := [some (.ref (o_ad X a0)), some (.int 0), some (.int (μ1.1 a0 38)), none]) hX h0 clX12_493 dX12_mark_30 rfl rfl (Nat.le_of_ble_eq_true rfl) (Nat.le_of_ble_eq_true rfl) (dnX12_copies hX h0 (o_bdp h)) (fun _u μ2 h => ?_)
    refine s_aload_n (i := 0) dX12_mark_33 rfl rfl ?_
    refine s_aload_n (i := 0) dX12_mark_34 rfl rfl ?_
    refine s_getI h0 flX12_490 rfl dX12_mark_35 ?_
    refine s_callVi (C := mX12_gives) (As := [.int (μ2.1 a0 38)]) (rest := []) (L0 := [some (.ref (o_ad X a0)), some (.int (μ2.1 a0 38))]) hX h0 clX12_91 dX12_mark_38 rfl rfl (Nat.le_of_ble_eq_true rfl) (Nat.le_of_ble_eq_true rfl) (dnX12_gives hX h0 (o_bdp h)) (fun r1 μ3 h => ?_)
    exact s_ireturn rfl dX12_mark_41 ⟨_, rfl, o_ret h⟩
  · have h := o_if_t c1 h
    refine s_aload_n (i := 0) dX12_mark_8 rfl rfl ?_
    refine s_iconst dX12_mark_9 kI_4 ?_
    refine s_callVi (C := mX12_refuse) (As := [.int 4]) (rest := []) (L0 := [some (.ref (o_ad X a0)), some (.int 4)]) hX h0 clX12_87 dX12_mark_10 rfl rfl (Nat.le_of_ble_eq_true rfl) (Nat.le_of_ble_eq_true rfl) (dnX12_refuse hX h0 (o_bdp h)) (fun r2 μ4 h => ?_)
    exact s_ireturn rfl dX12_mark_13 ⟨_, rfl, o_ret h⟩
theorem dX12_undo_0 : decode cX12_undo 0 = .ok (.aload_n 0, 1) := by decide +kernel
theorem dX12_undo_1 : decode cX12_undo 1 = .ok (.getfield 490, 3) := by decide +kernel
theorem dX12_undo_4 : decode cX12_undo 4 = .ok (.ifCond .ne 10, 3) := by decide +kernel
theorem dX12_undo_7 : decode cX12_undo 7 = .ok (.aload_n 0, 1) := by decide +kernel
theorem dX12_undo_8 : decode cX12_undo 8 = .ok (.bipush 6, 2) := by decide +kernel
theorem dX12_undo_10 : decode cX12_undo 10 = .ok (.invokevirtual 87, 3) := by decide +kernel
theorem dX12_undo_13 : decode cX12_undo 13 = .ok (.ireturn, 1) := by decide +kernel
theorem dX12_undo_14 : decode cX12_undo 14 = .ok (.aload_n 0, 1) := by decide +kernel
theorem dX12_undo_15 : decode cX12_undo 15 = .ok (.aload_n 0, 1) := by decide +kernel
theorem dX12_undo_16 : decode cX12_undo 16 = .ok (.getfield 490, 3) := by decide +kernel
theorem dX12_undo_19 : decode cX12_undo 19 = .ok (.iconst 0, 1) := by decide +kernel
theorem dX12_undo_20 : decode cX12_undo 20 = .ok (.invokevirtual 493, 3) := by decide +kernel
theorem dX12_undo_23 : decode cX12_undo 23 = .ok (.aload_n 0, 1) := by decide +kernel
theorem dX12_undo_24 : decode cX12_undo 24 = .ok (.dup, 1) := by decide +kernel
theorem dX12_undo_25 : decode cX12_undo 25 = .ok (.getfield 490, 3) := by decide +kernel
theorem dX12_undo_28 : decode cX12_undo 28 = .ok (.iconst 1, 1) := by decide +kernel
theorem dX12_undo_29 : decode cX12_undo 29 = .ok (.isub, 1) := by decide +kernel
theorem dX12_undo_30 : decode cX12_undo 30 = .ok (.putfield 490, 3) := by decide +kernel
theorem dX12_undo_33 : decode cX12_undo 33 = .ok (.aload_n 0, 1) := by decide +kernel
theorem dX12_undo_34 : decode cX12_undo 34 = .ok (.aload_n 0, 1) := by decide +kernel
theorem dX12_undo_35 : decode cX12_undo 35 = .ok (.getfield 490, 3) := by decide +kernel
theorem dX12_undo_38 : decode cX12_undo 38 = .ok (.invokevirtual 91, 3) := by decide +kernel
theorem dX12_undo_41 : decode cX12_undo 41 = .ok (.ireturn, 1) := by decide +kernel
noncomputable def fX12_undo (rf : Nat → Nat → Nat) (a0 : Nat) (μ0 : o_Mem) : Option (Int32 × o_Mem) :=
  if (μ0.1 a0 38) = 0 then (
    o_bd (fX12_refuse rf a0 6 μ0) fun r2 μ4 =>
    some (r2, μ4))
  else (
    o_bd (fX12_copies rf a0 (μ0.1 a0 38) 0 μ0) fun _u μ1 =>
    o_seq (o_wI μ1 a0 38 ((μ1.1 a0 38) - 1)) fun μ2 =>
    o_bd (fX12_gives rf a0 (μ2.1 a0 38) μ2) fun r1 μ3 =>
    some (r1, μ3))
set_option maxRecDepth 20000 in
theorem dnX12_undo {X : o_Cx} (hX : o_ok X) {d : Nat} {a0 : Nat} {μ0 : o_Mem} {q : Int32 → o_Mem → Prop} (h0 : o_is X a0 (.inl 12)) (h : o_Post (fX12_undo (o_rf X) a0 μ0) q) : o_Ev X (d + 1) mX12_undo 0 [some (.ref (o_ad X a0))] [] μ0 (o_QI q) := by
  unfold fX12_undo at h
  refine s_aload_n (i := 0) dX12_undo_0 rfl rfl ?_
  refine s_getI h0 flX12_490 rfl dX12_undo_1 ?_
  refine s_if_ne (tgt := 14) dX12_undo_4 rfl (fun c1 => ?_) (fun c1 => ?_)
  · have h := o_if_f c1 h
    refine s_aload_n (i := 0) dX12_undo_14 rfl rfl ?_
    refine s_aload_n (i := 0) dX12_undo_15 rfl rfl ?_
    refine s_getI h0 flX12_490 rfl dX12_undo_16 ?_
    refine s_iconst dX12_undo_19 kI_0 ?_
    refine s_callVu (C := mX12_copies) (As := [.int (μ0.1 a0 38), .int 0]) (rest := []) (L0 := [some (.ref (o_ad X a0)), some (.int (μ0.1 a0 38)), some (.int 0), none]) hX h0 clX12_493 dX12_undo_20 rfl rfl (Nat.le_of_ble_eq_true rfl) (Nat.le_of_ble_eq_true rfl) (dnX12_copies hX h0 (o_bdp h)) (fun _u μ1 h => ?_)
    refine s_aload_n (i := 0) dX12_undo_23 rfl rfl ?_
    refine s_dup dX12_undo_24 rfl ?_
    refine s_getI h0 flX12_490 rfl dX12_undo_25 ?_
    refine s_iconst dX12_undo_28 kI_1 ?_
    refine s_isub dX12_undo_29 ?_
    refine s_putI hX h0 fwX12_490 rfl dX12_undo_30 (o_gen h (fun μ2 h => ?_))
    refine s_aload_n (i := 0) dX12_undo_33 rfl rfl ?_
    refine s_aload_n (i := 0) dX12_undo_34 rfl rfl ?_
    refine s_getI h0 flX12_490 rfl dX12_undo_35 ?_
    refine s_callVi (C := mX12_gives) (As := [.int (μ2.1 a0 38)]) (rest := []) (L0 := [some (.ref (o_ad X a0)), some (.int (μ2.1 a0 38))]) hX h0 clX12_91 dX12_undo_38 rfl rfl (Nat.le_of_ble_eq_true rfl) (Nat.le_of_ble_eq_true rfl) (dnX12_gives hX h0 (o_bdp h)) (fun r1 μ3 h => ?_)
    exact s_ireturn rfl dX12_undo_41 ⟨_, rfl, o_ret h⟩
  · have h := o_if_t c1 h
    refine s_aload_n (i := 0) dX12_undo_7 rfl rfl ?_
    refine s_bipush dX12_undo_8 kB_6 ?_
    refine s_callVi (C := mX12_refuse) (As := [.int 6]) (rest := []) (L0 := [some (.ref (o_ad X a0)), some (.int 6)]) hX h0 clX12_87 dX12_undo_10 rfl rfl (Nat.le_of_ble_eq_true rfl) (Nat.le_of_ble_eq_true rfl) (dnX12_refuse hX h0 (o_bdp h)) (fun r2 μ4 h => ?_)
    exact s_ireturn rfl dX12_undo_13 ⟨_, rfl, o_ret h⟩
