theorem dX2_postOne_0 : decode cX2_postOne 0 = .ok (.aload_n 1, 1) := by decide +kernel
theorem dX2_postOne_1 : decode cX2_postOne 1 = .ok (.getfield 96, 3) := by decide +kernel
theorem dX2_postOne_4 : decode cX2_postOne 4 = .ok (.invokevirtual 100, 3) := by decide +kernel
theorem dX2_postOne_7 : decode cX2_postOne 7 = .ok (.ifCond .eq 16, 3) := by decide +kernel
theorem dX2_postOne_10 : decode cX2_postOne 10 = .ok (.aload_n 0, 1) := by decide +kernel
theorem dX2_postOne_11 : decode cX2_postOne 11 = .ok (.dup, 1) := by decide +kernel
theorem dX2_postOne_12 : decode cX2_postOne 12 = .ok (.getfield 15, 3) := by decide +kernel
theorem dX2_postOne_15 : decode cX2_postOne 15 = .ok (.iconst 1, 1) := by decide +kernel
theorem dX2_postOne_16 : decode cX2_postOne 16 = .ok (.iadd, 1) := by decide +kernel
theorem dX2_postOne_17 : decode cX2_postOne 17 = .ok (.putfield 15, 3) := by decide +kernel
theorem dX2_postOne_20 : decode cX2_postOne 20 = .ok (.goto 31, 3) := by decide +kernel
theorem dX2_postOne_23 : decode cX2_postOne 23 = .ok (.aload_n 1, 1) := by decide +kernel
theorem dX2_postOne_24 : decode cX2_postOne 24 = .ok (.getfield 96, 3) := by decide +kernel
theorem dX2_postOne_27 : decode cX2_postOne 27 = .ok (.iload_n 2, 1) := by decide +kernel
theorem dX2_postOne_28 : decode cX2_postOne 28 = .ok (.iload_n 3, 1) := by decide +kernel
theorem dX2_postOne_29 : decode cX2_postOne 29 = .ok (.iload 4, 2) := by decide +kernel
theorem dX2_postOne_31 : decode cX2_postOne 31 = .ok (.aload_n 1, 1) := by decide +kernel
theorem dX2_postOne_32 : decode cX2_postOne 32 = .ok (.getfield 106, 3) := by decide +kernel
theorem dX2_postOne_35 : decode cX2_postOne 35 = .ok (.iload_n 2, 1) := by decide +kernel
theorem dX2_postOne_36 : decode cX2_postOne 36 = .ok (.iaload, 1) := by decide +kernel
theorem dX2_postOne_37 : decode cX2_postOne 37 = .ok (.iconst (-1), 1) := by decide +kernel
theorem dX2_postOne_38 : decode cX2_postOne 38 = .ok (.invokevirtual 109, 3) := by decide +kernel
theorem dX2_postOne_41 : decode cX2_postOne 41 = .ok (.aload_n 0, 1) := by decide +kernel
theorem dX2_postOne_42 : decode cX2_postOne 42 = .ok (.dup, 1) := by decide +kernel
theorem dX2_postOne_43 : decode cX2_postOne 43 = .ok (.getfield 25, 3) := by decide +kernel
theorem dX2_postOne_46 : decode cX2_postOne 46 = .ok (.iconst 1, 1) := by decide +kernel
theorem dX2_postOne_47 : decode cX2_postOne 47 = .ok (.iadd, 1) := by decide +kernel
theorem dX2_postOne_48 : decode cX2_postOne 48 = .ok (.putfield 25, 3) := by decide +kernel
theorem dX2_postOne_51 : decode cX2_postOne 51 = .ok (.return_, 1) := by decide +kernel
noncomputable def fX2_postOne (rf : Nat → Nat → Nat) (a0 : Nat) (a1 : Nat) (x2 : Int32) (x3 : Int32) (x4 : Int32) (μ0 : o_Mem) : Option (Unit × o_Mem) :=
  o_bd (fX1_isFull rf (rf a1 15) μ0) fun r1 μ1 =>
  if r1 = 0 then (
    o_ck (0 ≤ (x2).toInt ∧ (x2).toInt < 6) <|
    o_bd (fX1_add rf (rf a1 15) x2 x3 x4 (μ1.1 (rf a1 11) x2.toNatClampNeg) (-1) μ1) fun _u μ2 =>
    o_seq (o_wI μ2 a0 3 ((μ2.1 a0 3) + 1)) fun μ3 =>
    some ((), μ3))
  else (
    o_seq (o_wI μ1 a0 0 ((μ1.1 a0 0) + 1)) fun μ4 =>
    some ((), μ4))
set_option maxRecDepth 20000 in
theorem dnX2_postOne {X : o_Cx} (hX : o_ok X) {d : Nat} {a0 : Nat} {a1 : Nat} {x2 : Int32} {x3 : Int32} {x4 : Int32} {μ0 : o_Mem} {q : Unit → o_Mem → Prop} (h0 : o_is X a0 (.inl 2)) (h1 : o_is X a1 (.inl 8)) (h : o_Post (fX2_postOne (o_rf X) a0 a1 x2 x3 x4 μ0) q) : o_Ev X (d + 1) mX2_postOne 0 [some (.ref (o_ad X a0)), some (.ref (o_ad X a1)), some (.int x2), some (.int x3), some (.int x4)] [] μ0 (o_QU q) := by
  unfold fX2_postOne at h
  refine s_aload_n (i := 1) dX2_postOne_0 rfl rfl ?_
  refine s_getR hX h1 flX2_96 rfl dX2_postOne_1 (fun (g1 : o_is X (o_rf X a1 15) (.inl 1)) => ?_)
  refine s_callVz (C := mX1_isFull) (As := []) (rest := []) (L0 := [some (.ref (o_ad X (o_rf X a1 15)))]) hX g1 clX2_100 dX2_postOne_4 rfl rfl (Nat.le_of_ble_eq_true rfl) (Nat.le_of_ble_eq_true rfl) (dnX1_isFull hX g1 (o_bdp h)) (fun r1 μ1 zr1 h => ?_)
  refine s_if_eq (tgt := 23) dX2_postOne_7 rfl (fun c1 => ?_) (fun c1 => ?_)
  · have h := o_if_t c1 h
    refine s_aload_n (i := 1) dX2_postOne_23 rfl rfl ?_
    refine s_getR hX h1 flX2_96 rfl dX2_postOne_24 (fun (g2 : o_is X (o_rf X a1 15) (.inl 1)) => ?_)
    refine s_iload_n (i := 2) dX2_postOne_27 rfl rfl ?_
    refine s_iload_n (i := 3) dX2_postOne_28 rfl rfl ?_
    refine s_iload dX2_postOne_29 rfl ?_
    refine s_aload_n (i := 1) dX2_postOne_31 rfl rfl ?_
    refine s_getR hX h1 flX2_106 rfl dX2_postOne_32 (fun (g3 : o_is X (o_rf X a1 11) (.inr (0, 6))) => ?_)
    refine s_iload_n (i := 2) dX2_postOne_35 rfl rfl ?_
    have hc := o_ck_c h
    have h := o_ck_k h
    refine s_ialdK g3 hc rfl dX2_postOne_36 ?_
    refine s_iconst dX2_postOne_37 kI_m1 ?_
    refine s_callVu (C := mX1_add) (As := [.int x2, .int x3, .int x4, .int (μ1.1 (o_rf X a1 11) x2.toNatClampNeg), .int (-1)]) (rest := []) (L0 := [some (.ref (o_ad X (o_rf X a1 15))), some (.int x2), some (.int x3), some (.int x4), some (.int (μ1.1 (o_rf X a1 11) x2.toNatClampNeg)), some (.int (-1))]) hX g2 clX2_109 dX2_postOne_38 rfl rfl (Nat.le_of_ble_eq_true rfl) (Nat.le_of_ble_eq_true rfl) (dnX1_add hX g2 (o_bdp h)) (fun _u μ2 h => ?_)
    refine s_aload_n (i := 0) dX2_postOne_41 rfl rfl ?_
    refine s_dup dX2_postOne_42 rfl ?_
    refine s_getI h0 flX2_25 rfl dX2_postOne_43 ?_
    refine s_iconst dX2_postOne_46 kI_1 ?_
    refine s_iadd dX2_postOne_47 ?_
    refine s_putI hX h0 fwX2_25 rfl dX2_postOne_48 (o_gen h (fun μ3 h => ?_))
    exact s_return rfl dX2_postOne_51 ⟨rfl, o_ret h⟩
  · have h := o_if_f c1 h
    refine s_aload_n (i := 0) dX2_postOne_10 rfl rfl ?_
    refine s_dup dX2_postOne_11 rfl ?_
    refine s_getI h0 flX2_15 rfl dX2_postOne_12 ?_
    refine s_iconst dX2_postOne_15 kI_1 ?_
    refine s_iadd dX2_postOne_16 ?_
    refine s_putI hX h0 fwX2_15 rfl dX2_postOne_17 (o_gen h (fun μ4 h => ?_))
    refine s_goto (tgt := 51) dX2_postOne_20 rfl ?_
    exact s_return rfl dX2_postOne_51 ⟨rfl, o_ret h⟩
theorem dX2_become_0 : decode cX2_become 0 = .ok (.aload_n 1, 1) := by decide +kernel
theorem dX2_become_1 : decode cX2_become 1 = .ok (.getfield 88, 3) := by decide +kernel
theorem dX2_become_4 : decode cX2_become 4 = .ok (.iload_n 2, 1) := by decide +kernel
theorem dX2_become_5 : decode cX2_become 5 = .ok (.if_icmp .ne 16, 3) := by decide +kernel
theorem dX2_become_8 : decode cX2_become 8 = .ok (.aload_n 0, 1) := by decide +kernel
theorem dX2_become_9 : decode cX2_become 9 = .ok (.dup, 1) := by decide +kernel
theorem dX2_become_10 : decode cX2_become 10 = .ok (.getfield 15, 3) := by decide +kernel
theorem dX2_become_13 : decode cX2_become 13 = .ok (.iconst 1, 1) := by decide +kernel
theorem dX2_become_14 : decode cX2_become 14 = .ok (.iadd, 1) := by decide +kernel
theorem dX2_become_15 : decode cX2_become 15 = .ok (.putfield 15, 3) := by decide +kernel
theorem dX2_become_18 : decode cX2_become 18 = .ok (.goto 8, 3) := by decide +kernel
theorem dX2_become_21 : decode cX2_become 21 = .ok (.aload_n 1, 1) := by decide +kernel
theorem dX2_become_22 : decode cX2_become 22 = .ok (.iload_n 2, 1) := by decide +kernel
theorem dX2_become_23 : decode cX2_become 23 = .ok (.putfield 88, 3) := by decide +kernel
theorem dX2_become_26 : decode cX2_become 26 = .ok (.return_, 1) := by decide +kernel
noncomputable def fX2_become (rf : Nat → Nat → Nat) (a0 : Nat) (a1 : Nat) (x2 : Int32) (μ0 : o_Mem) : Option (Unit × o_Mem) :=
  if (μ0.1 a1 6) = x2 then (
    o_seq (o_wI μ0 a0 0 ((μ0.1 a0 0) + 1)) fun μ2 =>
    some ((), μ2))
  else (
    o_ck (x2 = 0 ∨ x2 = 1) <|
    o_seq (o_wI μ0 a1 6 x2) fun μ1 =>
    some ((), μ1))
set_option maxRecDepth 20000 in
theorem dnX2_become {X : o_Cx} (hX : o_ok X) {d : Nat} {a0 : Nat} {a1 : Nat} {x2 : Int32} {μ0 : o_Mem} {q : Unit → o_Mem → Prop} (h0 : o_is X a0 (.inl 2)) (h1 : o_is X a1 (.inl 8)) (h : o_Post (fX2_become (o_rf X) a0 a1 x2 μ0) q) : o_Ev X (d + 0) mX2_become 0 [some (.ref (o_ad X a0)), some (.ref (o_ad X a1)), some (.int x2)] [] μ0 (o_QU q) := by
  unfold fX2_become at h
  refine s_aload_n (i := 1) dX2_become_0 rfl rfl ?_
  refine s_getI h1 flX2_88 rfl dX2_become_1 ?_
  refine s_iload_n (i := 2) dX2_become_4 rfl rfl ?_
  refine s_icmp_ne (tgt := 21) dX2_become_5 rfl (fun c1 => ?_) (fun c1 => ?_)
  · have h := o_if_f c1 h
    refine s_aload_n (i := 1) dX2_become_21 rfl rfl ?_
    refine s_iload_n (i := 2) dX2_become_22 rfl rfl ?_
    have hz := o_ck_c h
    have h := o_ck_k h
    refine s_putZ hX h1 fwX2_88 rfl hz dX2_become_23 (o_gen h (fun μ1 h => ?_))
    exact s_return rfl dX2_become_26 ⟨rfl, o_ret h⟩
  · have h := o_if_t c1 h
    refine s_aload_n (i := 0) dX2_become_8 rfl rfl ?_
    refine s_dup dX2_become_9 rfl ?_
    refine s_getI h0 flX2_15 rfl dX2_become_10 ?_
    refine s_iconst dX2_become_13 kI_1 ?_
    refine s_iadd dX2_become_14 ?_
    refine s_putI hX h0 fwX2_15 rfl dX2_become_15 (o_gen h (fun μ2 h => ?_))
    refine s_goto (tgt := 26) dX2_become_18 rfl ?_
    exact s_return rfl dX2_become_26 ⟨rfl, o_ret h⟩
theorem dX2_drawSixteenths_0 : decode cX2_drawSixteenths 0 = .ok (.aload_n 0, 1) := by decide +kernel
theorem dX2_drawSixteenths_1 : decode cX2_drawSixteenths 1 = .ok (.aload_n 0, 1) := by decide +kernel
theorem dX2_drawSixteenths_2 : decode cX2_drawSixteenths 2 = .ok (.getfield 34, 3) := by decide +kernel
theorem dX2_drawSixteenths_5 : decode cX2_drawSixteenths 5 = .ok (.sipush 3041, 3) := by decide +kernel
theorem dX2_drawSixteenths_8 : decode cX2_drawSixteenths 8 = .ok (.imul, 1) := by decide +kernel
theorem dX2_drawSixteenths_9 : decode cX2_drawSixteenths 9 = .ok (.sipush 11261, 3) := by decide +kernel
theorem dX2_drawSixteenths_12 : decode cX2_drawSixteenths 12 = .ok (.iadd, 1) := by decide +kernel
theorem dX2_drawSixteenths_13 : decode cX2_drawSixteenths 13 = .ok (.ldc 113, 2) := by decide +kernel
theorem dX2_drawSixteenths_15 : decode cX2_drawSixteenths 15 = .ok (.irem, 1) := by decide +kernel
theorem dX2_drawSixteenths_16 : decode cX2_drawSixteenths 16 = .ok (.putfield 34, 3) := by decide +kernel
theorem dX2_drawSixteenths_19 : decode cX2_drawSixteenths 19 = .ok (.aload_n 0, 1) := by decide +kernel
theorem dX2_drawSixteenths_20 : decode cX2_drawSixteenths 20 = .ok (.getfield 34, 3) := by decide +kernel
theorem dX2_drawSixteenths_23 : decode cX2_drawSixteenths 23 = .ok (.bipush 8, 2) := by decide +kernel
theorem dX2_drawSixteenths_25 : decode cX2_drawSixteenths 25 = .ok (.idiv, 1) := by decide +kernel
theorem dX2_drawSixteenths_26 : decode cX2_drawSixteenths 26 = .ok (.bipush 16, 2) := by decide +kernel
theorem dX2_drawSixteenths_28 : decode cX2_drawSixteenths 28 = .ok (.irem, 1) := by decide +kernel
theorem dX2_drawSixteenths_29 : decode cX2_drawSixteenths 29 = .ok (.ireturn, 1) := by decide +kernel
noncomputable def fX2_drawSixteenths (rf : Nat → Nat → Nat) (a0 : Nat) (μ0 : o_Mem) : Option (Int32 × o_Mem) :=
  o_seq (o_wI μ0 a0 6 ((((μ0.1 a0 6) * 3041) + 11261) - (((μ0.1 a0 6) * 3041) + 11261) / 65536 * 65536)) fun μ1 =>
  some ((((μ1.1 a0 6) / 8) - ((μ1.1 a0 6) / 8) / 16 * 16), μ1)
set_option maxRecDepth 20000 in
theorem dnX2_drawSixteenths {X : o_Cx} (hX : o_ok X) {d : Nat} {a0 : Nat} {μ0 : o_Mem} {q : Int32 → o_Mem → Prop} (h0 : o_is X a0 (.inl 2)) (h : o_Post (fX2_drawSixteenths (o_rf X) a0 μ0) q) : o_Ev X (d + 0) mX2_drawSixteenths 0 [some (.ref (o_ad X a0))] [] μ0 (o_QI q) := by
  unfold fX2_drawSixteenths at h
  refine s_aload_n (i := 0) dX2_drawSixteenths_0 rfl rfl ?_
  refine s_aload_n (i := 0) dX2_drawSixteenths_1 rfl rfl ?_
  refine s_getI h0 flX2_34 rfl dX2_drawSixteenths_2 ?_
  refine s_sipush dX2_drawSixteenths_5 kS_3041 ?_
  refine s_imul dX2_drawSixteenths_8 ?_
  refine s_sipush dX2_drawSixteenths_9 kS_11261 ?_
  refine s_iadd dX2_drawSixteenths_12 ?_
  refine s_ldc (v := 65536) w_6_82 dX2_drawSixteenths_13 ?_
  refine s_irem dX2_drawSixteenths_15 (by decide) ?_
  refine s_putI hX h0 fwX2_34 rfl dX2_drawSixteenths_16 (o_gen h (fun μ1 h => ?_))
  refine s_aload_n (i := 0) dX2_drawSixteenths_19 rfl rfl ?_
  refine s_getI h0 flX2_34 rfl dX2_drawSixteenths_20 ?_
  refine s_bipush dX2_drawSixteenths_23 kB_8 ?_
  refine s_idiv dX2_drawSixteenths_25 (by decide) ?_
  refine s_bipush dX2_drawSixteenths_26 kB_16 ?_
  refine s_irem dX2_drawSixteenths_28 (by decide) ?_
  exact s_ireturn rfl dX2_drawSixteenths_29 ⟨_, rfl, o_ret h⟩
theorem dX2_hasStruck_0 : decode cX2_hasStruck 0 = .ok (.iconst 0, 1) := by decide +kernel
theorem dX2_hasStruck_1 : decode cX2_hasStruck 1 = .ok (.istore_n 2, 1) := by decide +kernel
theorem dX2_hasStruck_2 : decode cX2_hasStruck 2 = .ok (.iload_n 2, 1) := by decide +kernel
theorem dX2_hasStruck_3 : decode cX2_hasStruck 3 = .ok (.aload_n 0, 1) := by decide +kernel
theorem dX2_hasStruck_4 : decode cX2_hasStruck 4 = .ok (.getfield 120, 3) := by decide +kernel
theorem dX2_hasStruck_7 : decode cX2_hasStruck 7 = .ok (.if_icmp .ge 21, 3) := by decide +kernel
theorem dX2_hasStruck_10 : decode cX2_hasStruck 10 = .ok (.aload_n 0, 1) := by decide +kernel
theorem dX2_hasStruck_11 : decode cX2_hasStruck 11 = .ok (.getfield 121, 3) := by decide +kernel
theorem dX2_hasStruck_14 : decode cX2_hasStruck 14 = .ok (.iload_n 2, 1) := by decide +kernel
theorem dX2_hasStruck_15 : decode cX2_hasStruck 15 = .ok (.iaload, 1) := by decide +kernel
theorem dX2_hasStruck_16 : decode cX2_hasStruck 16 = .ok (.iload_n 1, 1) := by decide +kernel
theorem dX2_hasStruck_17 : decode cX2_hasStruck 17 = .ok (.if_icmp .ne 5, 3) := by decide +kernel
theorem dX2_hasStruck_20 : decode cX2_hasStruck 20 = .ok (.iconst 1, 1) := by decide +kernel
theorem dX2_hasStruck_21 : decode cX2_hasStruck 21 = .ok (.ireturn, 1) := by decide +kernel
theorem dX2_hasStruck_22 : decode cX2_hasStruck 22 = .ok (.iinc 2 1, 3) := by decide +kernel
theorem dX2_hasStruck_25 : decode cX2_hasStruck 25 = .ok (.goto (-23), 3) := by decide +kernel
theorem dX2_hasStruck_28 : decode cX2_hasStruck 28 = .ok (.iconst 0, 1) := by decide +kernel
theorem dX2_hasStruck_29 : decode cX2_hasStruck 29 = .ok (.ireturn, 1) := by decide +kernel
noncomputable def fX2_hasStruck_s2 (rf : Nat → Nat → Nat) (a0 : Nat) (x1 : Int32) (τ2 : Int32) (μ0 : o_Mem) : Option ((Nat × (Int32)) × o_Mem) :=
  if (μ0.1 a0 0) ≤ τ2 then (
    some ((28, 0), μ0))
  else (
    o_ck (0 ≤ (τ2).toInt ∧ (τ2).toInt < 12) <|
    if (μ0.1 (rf a0 5) τ2.toNatClampNeg) = x1 then (
      some ((20, 0), μ0))
    else (
      some ((2, (τ2 + 1)), μ0)))
noncomputable def fX2_hasStruck (rf : Nat → Nat → Nat) (a0 : Nat) (x1 : Int32) (μ0 : o_Mem) : Option (Int32 × o_Mem) :=
  o_bd (o_lp 2 (fX2_hasStruck_s2 rf a0 x1) o_fuel (0 : Int32) μ0) fun ex1 μ1 =>
  if ex1.1 = 20 then (
    some (1, μ1))
  else
  if ex1.1 = 28 then (
    some (0, μ1))
  else
    none
set_option maxRecDepth 20000 in
theorem dnX2_hasStruck_s2 {X : o_Cx} (hX : o_ok X) {d : Nat} {a0 : Nat} {x1 : Int32} {τ2 : Int32} {μ0 : o_Mem} {K : (Nat × (Int32)) → o_Mem → Prop} {Q : Option Value → o_Mem → Prop} (h0 : o_is X a0 (.inl 1)) (h : o_Post (fX2_hasStruck_s2 (o_rf X) a0 x1 τ2 μ0) K) (kh : ∀ (τ2 : Int32) (μ : o_Mem), K (2, τ2) μ → o_Ev X (d + 0) mX2_hasStruck 2 [some (.ref (o_ad X a0)), some (.int x1), some (.int τ2)] [] μ Q) (k20 : ∀ (τ2 : Int32) (μ : o_Mem), K (20, τ2) μ → o_Ev X (d + 0) mX2_hasStruck 20 [none, none, none] [] μ Q) (k28 : ∀ (τ2 : Int32) (μ : o_Mem), K (28, τ2) μ → o_Ev X (d + 0) mX2_hasStruck 28 [none, none, none] [] μ Q) : o_Ev X (d + 0) mX2_hasStruck 2 [some (.ref (o_ad X a0)), some (.int x1), some (.int τ2)] [] μ0 Q := by
  unfold fX2_hasStruck_s2 at h
  refine s_iload_n (i := 2) dX2_hasStruck_2 rfl rfl ?_
  refine s_aload_n (i := 0) dX2_hasStruck_3 rfl rfl ?_
  refine s_getI h0 flX2_120 rfl dX2_hasStruck_4 ?_
  refine s_icmp_ge (tgt := 28) dX2_hasStruck_7 rfl (fun c1 => ?_) (fun c1 => ?_)
  · have h := o_if_t c1 h
    refine s_mask [false, false, false] (L' := [none, none, none]) rfl ?_
    exact k28 0 _ (o_ret h)
  · have h := o_if_f c1 h
    refine s_aload_n (i := 0) dX2_hasStruck_10 rfl rfl ?_
    refine s_getR hX h0 flX2_121 rfl dX2_hasStruck_11 (fun (g1 : o_is X (o_rf X a0 5) (.inr (0, 12))) => ?_)
    refine s_iload_n (i := 2) dX2_hasStruck_14 rfl rfl ?_
    have hc := o_ck_c h
    have h := o_ck_k h
    refine s_ialdK g1 hc rfl dX2_hasStruck_15 ?_
    refine s_iload_n (i := 1) dX2_hasStruck_16 rfl rfl ?_
    refine s_icmp_ne (tgt := 22) dX2_hasStruck_17 rfl (fun c1 => ?_) (fun c1 => ?_)
    · have h := o_if_f c1 h
      refine s_iinc (v := (τ2 + 1)) dX2_hasStruck_22 rfl rfl (Nat.le_of_ble_eq_true rfl) rfl ?_
      refine s_goto (tgt := 2) dX2_hasStruck_25 rfl ?_
      refine s_mask [true, true, true] (L' := [some (.ref (o_ad X a0)), some (.int x1), some (.int (τ2 + 1))]) rfl ?_
      exact kh (τ2 + 1) _ (o_ret h)
    · have h := o_if_t c1 h
      refine s_mask [false, false, false] (L' := [none, none, none]) rfl ?_
      exact k20 0 _ (o_ret h)
set_option maxRecDepth 20000 in
theorem dnX2_hasStruck {X : o_Cx} (hX : o_ok X) {d : Nat} {a0 : Nat} {x1 : Int32} {μ0 : o_Mem} {q : Int32 → o_Mem → Prop} (h0 : o_is X a0 (.inl 1)) (h : o_Post (fX2_hasStruck (o_rf X) a0 x1 μ0) q) : o_Ev X (d + 0) mX2_hasStruck 0 [some (.ref (o_ad X a0)), some (.int x1), none] [] μ0 (o_QZ q) := by
  unfold fX2_hasStruck at h
  refine s_iconst dX2_hasStruck_0 kI_0 ?_
  refine s_istore_n (i := 2) dX2_hasStruck_1 rfl (Nat.le_of_ble_eq_true rfl) rfl ?_
  refine s_mask [true, true, true] (L' := [some (.ref (o_ad X a0)), some (.int x1), some (.int 0)]) rfl ?_
  refine o_lp_ev (fun τ2 => [some (.ref (o_ad X a0)), some (.int x1), some (.int τ2)]) (fun τ2 μ _K h kv ke2 => dnX2_hasStruck_s2 hX h0 h kv (fun τ2 μ1 h => ?_) (fun τ2 μ1 h => ?_)) o_fuel 0 μ0 (o_bdp h)
  · have h := o_if_t rfl (ke2 (20, τ2) μ1 (o_ne rfl) h)
    refine s_iconst dX2_hasStruck_20 kI_1 ?_
    exact s_zreturn rfl (Or.inr rfl) dX2_hasStruck_21 ⟨_, rfl, (Or.inr rfl), o_ret h⟩
  · have h := o_if_t rfl (o_if_f (o_ne rfl) (ke2 (28, τ2) μ1 (o_ne rfl) h))
    refine s_iconst dX2_hasStruck_28 kI_0 ?_
    exact s_zreturn rfl (Or.inl rfl) dX2_hasStruck_29 ⟨_, rfl, (Or.inl rfl), o_ret h⟩
theorem dX2_holds_0 : decode cX2_holds 0 = .ok (.iload_n 1, 1) := by decide +kernel
theorem dX2_holds_1 : decode cX2_holds 1 = .ok (.lookupswitch 91 #[(21, 43), (23, 52), (60, 57), (62, 74)], 43) := by decide +kernel
theorem dX2_holds_44 : decode cX2_holds 44 = .ok (.aload_n 0, 1) := by decide +kernel
theorem dX2_holds_45 : decode cX2_holds 45 = .ok (.getfield 114, 3) := by decide +kernel
theorem dX2_holds_48 : decode cX2_holds 48 = .ok (.iload_n 2, 1) := by decide +kernel
theorem dX2_holds_49 : decode cX2_holds 49 = .ok (.invokestatic 116, 3) := by decide +kernel
theorem dX2_holds_52 : decode cX2_holds 52 = .ok (.ireturn, 1) := by decide +kernel
theorem dX2_holds_53 : decode cX2_holds 53 = .ok (.aload_n 0, 1) := by decide +kernel
theorem dX2_holds_54 : decode cX2_holds 54 = .ok (.getfield 88, 3) := by decide +kernel
theorem dX2_holds_57 : decode cX2_holds 57 = .ok (.ireturn, 1) := by decide +kernel
theorem dX2_holds_58 : decode cX2_holds 58 = .ok (.aload_n 0, 1) := by decide +kernel
theorem dX2_holds_59 : decode cX2_holds 59 = .ok (.getfield 96, 3) := by decide +kernel
theorem dX2_holds_62 : decode cX2_holds 62 = .ok (.getfield 120, 3) := by decide +kernel
theorem dX2_holds_65 : decode cX2_holds 65 = .ok (.iload_n 2, 1) := by decide +kernel
theorem dX2_holds_66 : decode cX2_holds 66 = .ok (.if_icmp .ge 7, 3) := by decide +kernel
theorem dX2_holds_69 : decode cX2_holds 69 = .ok (.iconst 1, 1) := by decide +kernel
theorem dX2_holds_70 : decode cX2_holds 70 = .ok (.goto 4, 3) := by decide +kernel
theorem dX2_holds_73 : decode cX2_holds 73 = .ok (.iconst 0, 1) := by decide +kernel
theorem dX2_holds_74 : decode cX2_holds 74 = .ok (.ireturn, 1) := by decide +kernel
theorem dX2_holds_75 : decode cX2_holds 75 = .ok (.aload_n 0, 1) := by decide +kernel
theorem dX2_holds_76 : decode cX2_holds 76 = .ok (.getfield 96, 3) := by decide +kernel
theorem dX2_holds_79 : decode cX2_holds 79 = .ok (.getfield 120, 3) := by decide +kernel
theorem dX2_holds_82 : decode cX2_holds 82 = .ok (.iload_n 2, 1) := by decide +kernel
theorem dX2_holds_83 : decode cX2_holds 83 = .ok (.if_icmp .le 7, 3) := by decide +kernel
theorem dX2_holds_86 : decode cX2_holds 86 = .ok (.iconst 1, 1) := by decide +kernel
theorem dX2_holds_87 : decode cX2_holds 87 = .ok (.goto 4, 3) := by decide +kernel
theorem dX2_holds_90 : decode cX2_holds 90 = .ok (.iconst 0, 1) := by decide +kernel
theorem dX2_holds_91 : decode cX2_holds 91 = .ok (.ireturn, 1) := by decide +kernel
theorem dX2_holds_92 : decode cX2_holds 92 = .ok (.aload_n 0, 1) := by decide +kernel
theorem dX2_holds_93 : decode cX2_holds 93 = .ok (.getfield 96, 3) := by decide +kernel
theorem dX2_holds_96 : decode cX2_holds 96 = .ok (.getfield 120, 3) := by decide +kernel
theorem dX2_holds_99 : decode cX2_holds 99 = .ok (.iload_n 2, 1) := by decide +kernel
theorem dX2_holds_100 : decode cX2_holds 100 = .ok (.if_icmp .ne 7, 3) := by decide +kernel
theorem dX2_holds_103 : decode cX2_holds 103 = .ok (.iconst 1, 1) := by decide +kernel
theorem dX2_holds_104 : decode cX2_holds 104 = .ok (.goto 4, 3) := by decide +kernel
theorem dX2_holds_107 : decode cX2_holds 107 = .ok (.iconst 0, 1) := by decide +kernel
theorem dX2_holds_108 : decode cX2_holds 108 = .ok (.ireturn, 1) := by decide +kernel
noncomputable def fX2_holds (rf : Nat → Nat → Nat) (a0 : Nat) (x1 : Int32) (x2 : Int32) (μ0 : o_Mem) : Option (Int32 × o_Mem) :=
  if x1 = 21 then (
    o_bd (fX2_hasStruck rf (rf a0 16) x2 μ0) fun r1 μ1 =>
    some (r1, μ1))
  else
  if x1 = 23 then (
    o_ck ((μ0.1 a0 6) = 0 ∨ (μ0.1 a0 6) = 1) <|
    some ((μ0.1 a0 6), μ0))
  else
  if x1 = 60 then (
    if x2 ≤ (μ0.1 (rf a0 15) 0) then (
      some (0, μ0))
    else (
      some (1, μ0)))
  else
  if x1 = 62 then (
    if (μ0.1 (rf a0 15) 0) ≤ x2 then (
      some (0, μ0))
    else (
      some (1, μ0)))
  else
    if (μ0.1 (rf a0 15) 0) = x2 then (
      some (1, μ0))
    else (
      some (0, μ0))
set_option maxRecDepth 20000 in
theorem dnX2_holds {X : o_Cx} (hX : o_ok X) {d : Nat} {a0 : Nat} {x1 : Int32} {x2 : Int32} {μ0 : o_Mem} {q : Int32 → o_Mem → Prop} (h0 : o_is X a0 (.inl 8)) (h : o_Post (fX2_holds (o_rf X) a0 x1 x2 μ0) q) : o_Ev X (d + 1) mX2_holds 0 [some (.ref (o_ad X a0)), some (.int x1), some (.int x2)] [] μ0 (o_QZ q) := by
  unfold fX2_holds at h
  refine s_iload_n (i := 1) dX2_holds_0 rfl rfl ?_
  by_cases e21 : x1 = 21
  · have h := o_if_t e21 h
    refine s_lookup (off := 43) (tgt := 44) dX2_holds_1 (by decide) (by rw [e21]; decide) rfl ?_
    refine s_aload_n (i := 0) dX2_holds_44 rfl rfl ?_
    refine s_getR hX h0 flX2_114 rfl dX2_holds_45 (fun (g1 : o_is X (o_rf X a0 16) (.inl 1)) => ?_)
    refine s_iload_n (i := 2) dX2_holds_48 rfl rfl ?_
    refine s_callSz (C := mX2_hasStruck) (As := [.ref (o_ad X (o_rf X a0 16)), .int x2]) (rest := []) (L0 := [some (.ref (o_ad X (o_rf X a0 16))), some (.int x2), none]) clX2_116 dX2_holds_49 rfl rfl (Nat.le_of_ble_eq_true rfl) (Nat.le_of_ble_eq_true rfl) (dnX2_hasStruck hX g1 (o_bdp h)) (fun r1 μ1 zr1 h => ?_)
    exact s_zreturn rfl zr1 dX2_holds_52 ⟨_, rfl, zr1, o_ret h⟩
  have h := o_if_f e21 h
  by_cases e23 : x1 = 23
  · have h := o_if_t e23 h
    refine s_lookup (off := 52) (tgt := 53) dX2_holds_1 (by decide) (by rw [e23]; decide) rfl ?_
    refine s_aload_n (i := 0) dX2_holds_53 rfl rfl ?_
    refine s_getI h0 flX2_88 rfl dX2_holds_54 ?_
    exact s_zreturn rfl (o_ck_c h) dX2_holds_57 ⟨_, rfl, o_ck_c h, o_ret (o_ck_k h)⟩
  have h := o_if_f e23 h
  by_cases e60 : x1 = 60
  · have h := o_if_t e60 h
    refine s_lookup (off := 57) (tgt := 58) dX2_holds_1 (by decide) (by rw [e60]; decide) rfl ?_
    refine s_aload_n (i := 0) dX2_holds_58 rfl rfl ?_
    refine s_getR hX h0 flX2_96 rfl dX2_holds_59 (fun (g2 : o_is X (o_rf X a0 15) (.inl 1)) => ?_)
    refine s_getI g2 flX2_120 rfl dX2_holds_62 ?_
    refine s_iload_n (i := 2) dX2_holds_65 rfl rfl ?_
    refine s_icmp_ge (tgt := 73) dX2_holds_66 rfl (fun c1 => ?_) (fun c1 => ?_)
    · have h := o_if_t c1 h
      refine s_iconst dX2_holds_73 kI_0 ?_
      exact s_zreturn rfl (Or.inl rfl) dX2_holds_74 ⟨_, rfl, (Or.inl rfl), o_ret h⟩
    · have h := o_if_f c1 h
      refine s_iconst dX2_holds_69 kI_1 ?_
      refine s_goto (tgt := 74) dX2_holds_70 rfl ?_
      exact s_zreturn rfl (Or.inr rfl) dX2_holds_74 ⟨_, rfl, (Or.inr rfl), o_ret h⟩
  have h := o_if_f e60 h
  by_cases e62 : x1 = 62
  · have h := o_if_t e62 h
    refine s_lookup (off := 74) (tgt := 75) dX2_holds_1 (by decide) (by rw [e62]; decide) rfl ?_
    refine s_aload_n (i := 0) dX2_holds_75 rfl rfl ?_
    refine s_getR hX h0 flX2_96 rfl dX2_holds_76 (fun (g3 : o_is X (o_rf X a0 15) (.inl 1)) => ?_)
    refine s_getI g3 flX2_120 rfl dX2_holds_79 ?_
    refine s_iload_n (i := 2) dX2_holds_82 rfl rfl ?_
    refine s_icmp_le (tgt := 90) dX2_holds_83 rfl (fun c1 => ?_) (fun c1 => ?_)
    · have h := o_if_t c1 h
      refine s_iconst dX2_holds_90 kI_0 ?_
      exact s_zreturn rfl (Or.inl rfl) dX2_holds_91 ⟨_, rfl, (Or.inl rfl), o_ret h⟩
    · have h := o_if_f c1 h
      refine s_iconst dX2_holds_86 kI_1 ?_
      refine s_goto (tgt := 91) dX2_holds_87 rfl ?_
      exact s_zreturn rfl (Or.inr rfl) dX2_holds_91 ⟨_, rfl, (Or.inr rfl), o_ret h⟩
  have h := o_if_f e62 h
  refine s_lookup (off := 91) (tgt := 92) dX2_holds_1 (by decide) ((lv_osw e21 (by decide)).trans ((lv_osw e23 (by decide)).trans ((lv_osw e60 (by decide)).trans ((lv_osw e62 (by decide)).trans rfl)))) rfl ?_
  refine s_aload_n (i := 0) dX2_holds_92 rfl rfl ?_
  refine s_getR hX h0 flX2_96 rfl dX2_holds_93 (fun (g4 : o_is X (o_rf X a0 15) (.inl 1)) => ?_)
  refine s_getI g4 flX2_120 rfl dX2_holds_96 ?_
  refine s_iload_n (i := 2) dX2_holds_99 rfl rfl ?_
  refine s_icmp_ne (tgt := 107) dX2_holds_100 rfl (fun c1 => ?_) (fun c1 => ?_)
  · have h := o_if_f c1 h
    refine s_iconst dX2_holds_107 kI_0 ?_
    exact s_zreturn rfl (Or.inl rfl) dX2_holds_108 ⟨_, rfl, (Or.inl rfl), o_ret h⟩
  · have h := o_if_t c1 h
    refine s_iconst dX2_holds_103 kI_1 ?_
    refine s_goto (tgt := 108) dX2_holds_104 rfl ?_
    exact s_zreturn rfl (Or.inr rfl) dX2_holds_108 ⟨_, rfl, (Or.inr rfl), o_ret h⟩
theorem dX2_behindStep_0 : decode cX2_behindStep 0 = .ok (.aload_n 2, 1) := by decide +kernel
theorem dX2_behindStep_1 : decode cX2_behindStep 1 = .ok (.getfield 43, 3) := by decide +kernel
theorem dX2_behindStep_4 : decode cX2_behindStep 4 = .ok (.iload_n 3, 1) := by decide +kernel
theorem dX2_behindStep_5 : decode cX2_behindStep 5 = .ok (.iaload, 1) := by decide +kernel
theorem dX2_behindStep_6 : decode cX2_behindStep 6 = .ok (.tableswitch 239 15 24 #[54, 118, 145, 155, 165, 189, 239, 239, 239, 223], 54) := by decide +kernel
theorem dX2_behindStep_60 : decode cX2_behindStep 60 = .ok (.aload_n 1, 1) := by decide +kernel
theorem dX2_behindStep_61 : decode cX2_behindStep 61 = .ok (.aload_n 2, 1) := by decide +kernel
theorem dX2_behindStep_62 : decode cX2_behindStep 62 = .ok (.getfield 57, 3) := by decide +kernel
theorem dX2_behindStep_65 : decode cX2_behindStep 65 = .ok (.iload_n 3, 1) := by decide +kernel
theorem dX2_behindStep_66 : decode cX2_behindStep 66 = .ok (.iaload, 1) := by decide +kernel
theorem dX2_behindStep_67 : decode cX2_behindStep 67 = .ok (.invokevirtual 60, 3) := by decide +kernel
theorem dX2_behindStep_70 : decode cX2_behindStep 70 = .ok (.ifCond .eq 40, 3) := by decide +kernel
theorem dX2_behindStep_73 : decode cX2_behindStep 73 = .ok (.aload_n 0, 1) := by decide +kernel
theorem dX2_behindStep_74 : decode cX2_behindStep 74 = .ok (.dup, 1) := by decide +kernel
theorem dX2_behindStep_75 : decode cX2_behindStep 75 = .ok (.getfield 19, 3) := by decide +kernel
theorem dX2_behindStep_78 : decode cX2_behindStep 78 = .ok (.aload_n 2, 1) := by decide +kernel
theorem dX2_behindStep_79 : decode cX2_behindStep 79 = .ok (.getfield 57, 3) := by decide +kernel
theorem dX2_behindStep_82 : decode cX2_behindStep 82 = .ok (.iload_n 3, 1) := by decide +kernel
theorem dX2_behindStep_83 : decode cX2_behindStep 83 = .ok (.iaload, 1) := by decide +kernel
theorem dX2_behindStep_84 : decode cX2_behindStep 84 = .ok (.iadd, 1) := by decide +kernel
theorem dX2_behindStep_85 : decode cX2_behindStep 85 = .ok (.putfield 19, 3) := by decide +kernel
theorem dX2_behindStep_88 : decode cX2_behindStep 88 = .ok (.aload_n 0, 1) := by decide +kernel
theorem dX2_behindStep_89 : decode cX2_behindStep 89 = .ok (.dup, 1) := by decide +kernel
theorem dX2_behindStep_90 : decode cX2_behindStep 90 = .ok (.getfield 22, 3) := by decide +kernel
theorem dX2_behindStep_93 : decode cX2_behindStep 93 = .ok (.aload_n 1, 1) := by decide +kernel
theorem dX2_behindStep_94 : decode cX2_behindStep 94 = .ok (.aload_n 2, 1) := by decide +kernel
theorem dX2_behindStep_95 : decode cX2_behindStep 95 = .ok (.getfield 57, 3) := by decide +kernel
theorem dX2_behindStep_98 : decode cX2_behindStep 98 = .ok (.iload_n 3, 1) := by decide +kernel
theorem dX2_behindStep_99 : decode cX2_behindStep 99 = .ok (.iaload, 1) := by decide +kernel
theorem dX2_behindStep_100 : decode cX2_behindStep 100 = .ok (.invokevirtual 66, 3) := by decide +kernel
theorem dX2_behindStep_103 : decode cX2_behindStep 103 = .ok (.iadd, 1) := by decide +kernel
theorem dX2_behindStep_104 : decode cX2_behindStep 104 = .ok (.putfield 22, 3) := by decide +kernel
theorem dX2_behindStep_107 : decode cX2_behindStep 107 = .ok (.goto 13, 3) := by decide +kernel
theorem dX2_behindStep_110 : decode cX2_behindStep 110 = .ok (.aload_n 0, 1) := by decide +kernel
theorem dX2_behindStep_111 : decode cX2_behindStep 111 = .ok (.dup, 1) := by decide +kernel
theorem dX2_behindStep_112 : decode cX2_behindStep 112 = .ok (.getfield 15, 3) := by decide +kernel
theorem dX2_behindStep_115 : decode cX2_behindStep 115 = .ok (.iconst 1, 1) := by decide +kernel
theorem dX2_behindStep_116 : decode cX2_behindStep 116 = .ok (.iadd, 1) := by decide +kernel
theorem dX2_behindStep_117 : decode cX2_behindStep 117 = .ok (.putfield 15, 3) := by decide +kernel
theorem dX2_behindStep_120 : decode cX2_behindStep 120 = .ok (.iload_n 3, 1) := by decide +kernel
theorem dX2_behindStep_121 : decode cX2_behindStep 121 = .ok (.iconst 1, 1) := by decide +kernel
theorem dX2_behindStep_122 : decode cX2_behindStep 122 = .ok (.iadd, 1) := by decide +kernel
theorem dX2_behindStep_123 : decode cX2_behindStep 123 = .ok (.ireturn, 1) := by decide +kernel
theorem dX2_behindStep_124 : decode cX2_behindStep 124 = .ok (.aload_n 0, 1) := by decide +kernel
theorem dX2_behindStep_125 : decode cX2_behindStep 125 = .ok (.aload_n 1, 1) := by decide +kernel
theorem dX2_behindStep_126 : decode cX2_behindStep 126 = .ok (.aload_n 2, 1) := by decide +kernel
theorem dX2_behindStep_127 : decode cX2_behindStep 127 = .ok (.getfield 57, 3) := by decide +kernel
theorem dX2_behindStep_130 : decode cX2_behindStep 130 = .ok (.iload_n 3, 1) := by decide +kernel
theorem dX2_behindStep_131 : decode cX2_behindStep 131 = .ok (.iaload, 1) := by decide +kernel
theorem dX2_behindStep_132 : decode cX2_behindStep 132 = .ok (.aload_n 2, 1) := by decide +kernel
theorem dX2_behindStep_133 : decode cX2_behindStep 133 = .ok (.getfield 70, 3) := by decide +kernel
theorem dX2_behindStep_136 : decode cX2_behindStep 136 = .ok (.iload_n 3, 1) := by decide +kernel
theorem dX2_behindStep_137 : decode cX2_behindStep 137 = .ok (.iaload, 1) := by decide +kernel
theorem dX2_behindStep_138 : decode cX2_behindStep 138 = .ok (.aload_n 2, 1) := by decide +kernel
theorem dX2_behindStep_139 : decode cX2_behindStep 139 = .ok (.getfield 54, 3) := by decide +kernel
theorem dX2_behindStep_142 : decode cX2_behindStep 142 = .ok (.iload_n 3, 1) := by decide +kernel
theorem dX2_behindStep_143 : decode cX2_behindStep 143 = .ok (.iaload, 1) := by decide +kernel
theorem dX2_behindStep_144 : decode cX2_behindStep 144 = .ok (.invokevirtual 73, 3) := by decide +kernel
theorem dX2_behindStep_147 : decode cX2_behindStep 147 = .ok (.iload_n 3, 1) := by decide +kernel
theorem dX2_behindStep_148 : decode cX2_behindStep 148 = .ok (.iconst 1, 1) := by decide +kernel
theorem dX2_behindStep_149 : decode cX2_behindStep 149 = .ok (.iadd, 1) := by decide +kernel
theorem dX2_behindStep_150 : decode cX2_behindStep 150 = .ok (.ireturn, 1) := by decide +kernel
theorem dX2_behindStep_151 : decode cX2_behindStep 151 = .ok (.aload_n 0, 1) := by decide +kernel
theorem dX2_behindStep_152 : decode cX2_behindStep 152 = .ok (.aload_n 1, 1) := by decide +kernel
theorem dX2_behindStep_153 : decode cX2_behindStep 153 = .ok (.iconst 1, 1) := by decide +kernel
theorem dX2_behindStep_154 : decode cX2_behindStep 154 = .ok (.invokevirtual 77, 3) := by decide +kernel
theorem dX2_behindStep_157 : decode cX2_behindStep 157 = .ok (.iload_n 3, 1) := by decide +kernel
theorem dX2_behindStep_158 : decode cX2_behindStep 158 = .ok (.iconst 1, 1) := by decide +kernel
theorem dX2_behindStep_159 : decode cX2_behindStep 159 = .ok (.iadd, 1) := by decide +kernel
theorem dX2_behindStep_160 : decode cX2_behindStep 160 = .ok (.ireturn, 1) := by decide +kernel
theorem dX2_behindStep_161 : decode cX2_behindStep 161 = .ok (.aload_n 0, 1) := by decide +kernel
theorem dX2_behindStep_162 : decode cX2_behindStep 162 = .ok (.aload_n 1, 1) := by decide +kernel
theorem dX2_behindStep_163 : decode cX2_behindStep 163 = .ok (.iconst 0, 1) := by decide +kernel
theorem dX2_behindStep_164 : decode cX2_behindStep 164 = .ok (.invokevirtual 77, 3) := by decide +kernel
theorem dX2_behindStep_167 : decode cX2_behindStep 167 = .ok (.iload_n 3, 1) := by decide +kernel
theorem dX2_behindStep_168 : decode cX2_behindStep 168 = .ok (.iconst 1, 1) := by decide +kernel
theorem dX2_behindStep_169 : decode cX2_behindStep 169 = .ok (.iadd, 1) := by decide +kernel
theorem dX2_behindStep_170 : decode cX2_behindStep 170 = .ok (.ireturn, 1) := by decide +kernel
theorem dX2_behindStep_171 : decode cX2_behindStep 171 = .ok (.aload_n 1, 1) := by decide +kernel
theorem dX2_behindStep_172 : decode cX2_behindStep 172 = .ok (.aload_n 0, 1) := by decide +kernel
theorem dX2_behindStep_173 : decode cX2_behindStep 173 = .ok (.invokevirtual 81, 3) := by decide +kernel
theorem dX2_behindStep_176 : decode cX2_behindStep 176 = .ok (.aload_n 1, 1) := by decide +kernel
theorem dX2_behindStep_177 : decode cX2_behindStep 177 = .ok (.getfield 85, 3) := by decide +kernel
theorem dX2_behindStep_180 : decode cX2_behindStep 180 = .ok (.if_icmp .ge 7, 3) := by decide +kernel
theorem dX2_behindStep_183 : decode cX2_behindStep 183 = .ok (.iconst 1, 1) := by decide +kernel
theorem dX2_behindStep_184 : decode cX2_behindStep 184 = .ok (.goto 4, 3) := by decide +kernel
theorem dX2_behindStep_187 : decode cX2_behindStep 187 = .ok (.iconst 0, 1) := by decide +kernel
theorem dX2_behindStep_188 : decode cX2_behindStep 188 = .ok (.putfield 88, 3) := by decide +kernel
theorem dX2_behindStep_191 : decode cX2_behindStep 191 = .ok (.iload_n 3, 1) := by decide +kernel
theorem dX2_behindStep_192 : decode cX2_behindStep 192 = .ok (.iconst 1, 1) := by decide +kernel
theorem dX2_behindStep_193 : decode cX2_behindStep 193 = .ok (.iadd, 1) := by decide +kernel
theorem dX2_behindStep_194 : decode cX2_behindStep 194 = .ok (.ireturn, 1) := by decide +kernel
theorem dX2_behindStep_195 : decode cX2_behindStep 195 = .ok (.aload_n 1, 1) := by decide +kernel
theorem dX2_behindStep_196 : decode cX2_behindStep 196 = .ok (.aload_n 2, 1) := by decide +kernel
theorem dX2_behindStep_197 : decode cX2_behindStep 197 = .ok (.getfield 57, 3) := by decide +kernel
theorem dX2_behindStep_200 : decode cX2_behindStep 200 = .ok (.iload_n 3, 1) := by decide +kernel
theorem dX2_behindStep_201 : decode cX2_behindStep 201 = .ok (.iaload, 1) := by decide +kernel
theorem dX2_behindStep_202 : decode cX2_behindStep 202 = .ok (.aload_n 2, 1) := by decide +kernel
theorem dX2_behindStep_203 : decode cX2_behindStep 203 = .ok (.getfield 70, 3) := by decide +kernel
theorem dX2_behindStep_206 : decode cX2_behindStep 206 = .ok (.iload_n 3, 1) := by decide +kernel
theorem dX2_behindStep_207 : decode cX2_behindStep 207 = .ok (.iaload, 1) := by decide +kernel
theorem dX2_behindStep_208 : decode cX2_behindStep 208 = .ok (.invokestatic 92, 3) := by decide +kernel
theorem dX2_behindStep_211 : decode cX2_behindStep 211 = .ok (.ifCond .eq 9, 3) := by decide +kernel
theorem dX2_behindStep_214 : decode cX2_behindStep 214 = .ok (.iload_n 3, 1) := by decide +kernel
theorem dX2_behindStep_215 : decode cX2_behindStep 215 = .ok (.iconst 1, 1) := by decide +kernel
theorem dX2_behindStep_216 : decode cX2_behindStep 216 = .ok (.iadd, 1) := by decide +kernel
theorem dX2_behindStep_217 : decode cX2_behindStep 217 = .ok (.goto 11, 3) := by decide +kernel
theorem dX2_behindStep_220 : decode cX2_behindStep 220 = .ok (.aload_n 2, 1) := by decide +kernel
theorem dX2_behindStep_221 : decode cX2_behindStep 221 = .ok (.getfield 54, 3) := by decide +kernel
theorem dX2_behindStep_224 : decode cX2_behindStep 224 = .ok (.iload_n 3, 1) := by decide +kernel
theorem dX2_behindStep_225 : decode cX2_behindStep 225 = .ok (.iaload, 1) := by decide +kernel
theorem dX2_behindStep_226 : decode cX2_behindStep 226 = .ok (.iconst 1, 1) := by decide +kernel
theorem dX2_behindStep_227 : decode cX2_behindStep 227 = .ok (.iadd, 1) := by decide +kernel
theorem dX2_behindStep_228 : decode cX2_behindStep 228 = .ok (.ireturn, 1) := by decide +kernel
theorem dX2_behindStep_229 : decode cX2_behindStep 229 = .ok (.aload_n 0, 1) := by decide +kernel
theorem dX2_behindStep_230 : decode cX2_behindStep 230 = .ok (.getfield 9, 3) := by decide +kernel
theorem dX2_behindStep_233 : decode cX2_behindStep 233 = .ok (.iload_n 3, 1) := by decide +kernel
theorem dX2_behindStep_234 : decode cX2_behindStep 234 = .ok (.aload_n 2, 1) := by decide +kernel
theorem dX2_behindStep_235 : decode cX2_behindStep 235 = .ok (.getfield 57, 3) := by decide +kernel
theorem dX2_behindStep_238 : decode cX2_behindStep 238 = .ok (.iload_n 3, 1) := by decide +kernel
theorem dX2_behindStep_239 : decode cX2_behindStep 239 = .ok (.iaload, 1) := by decide +kernel
theorem dX2_behindStep_240 : decode cX2_behindStep 240 = .ok (.iastore, 1) := by decide +kernel
theorem dX2_behindStep_241 : decode cX2_behindStep 241 = .ok (.iload_n 3, 1) := by decide +kernel
theorem dX2_behindStep_242 : decode cX2_behindStep 242 = .ok (.iconst 1, 1) := by decide +kernel
theorem dX2_behindStep_243 : decode cX2_behindStep 243 = .ok (.iadd, 1) := by decide +kernel
theorem dX2_behindStep_244 : decode cX2_behindStep 244 = .ok (.ireturn, 1) := by decide +kernel
theorem dX2_behindStep_245 : decode cX2_behindStep 245 = .ok (.aload_n 2, 1) := by decide +kernel
theorem dX2_behindStep_246 : decode cX2_behindStep 246 = .ok (.getfield 38, 3) := by decide +kernel
theorem dX2_behindStep_249 : decode cX2_behindStep 249 = .ok (.ireturn, 1) := by decide +kernel
noncomputable def fX2_behindStep_j188 (rf : Nat → Nat → Nat) (x3 : Int32) (b0 : Nat) (y1 : Int32) (μ0 : o_Mem) : Option (Int32 × o_Mem) :=
  o_ck (y1 = 0 ∨ y1 = 1) <|
  o_seq (o_wI μ0 b0 6 y1) fun μ1 =>
  some ((x3 + 1), μ1)
noncomputable def fX2_behindStep (rf : Nat → Nat → Nat) (a0 : Nat) (a1 : Nat) (a2 : Nat) (x3 : Int32) (μ0 : o_Mem) : Option (Int32 × o_Mem) :=
  o_ck (0 ≤ (x3).toInt ∧ (x3).toInt < 60) <|
  if (μ0.1 (rf a2 3) x3.toNatClampNeg) = 15 then (
    o_ck (0 ≤ (x3).toInt ∧ (x3).toInt < 60) <|
    o_bd (fX8_hasDays rf a1 (μ0.1 (rf a2 4) x3.toNatClampNeg) μ0) fun r1 μ1 =>
    if r1 = 0 then (
      o_seq (o_wI μ1 a0 0 ((μ1.1 a0 0) + 1)) fun μ2 =>
      some ((x3 + 1), μ2))
    else (
      o_ck (0 ≤ (x3).toInt ∧ (x3).toInt < 60) <|
      o_seq (o_wI μ1 a0 1 ((μ1.1 a0 1) + (μ1.1 (rf a2 4) x3.toNatClampNeg))) fun μ3 =>
      o_ck (0 ≤ (x3).toInt ∧ (x3).toInt < 60) <|
      o_bd (fX8_goDays rf a1 (μ3.1 (rf a2 4) x3.toNatClampNeg) μ3) fun r2 μ4 =>
      o_seq (o_wI μ4 a0 2 ((μ3.1 a0 2) + r2)) fun μ5 =>
      some ((x3 + 1), μ5)))
  else
  if (μ0.1 (rf a2 3) x3.toNatClampNeg) = 16 then (
    o_ck (0 ≤ (x3).toInt ∧ (x3).toInt < 60) <|
    o_ck (0 ≤ (x3).toInt ∧ (x3).toInt < 60) <|
    o_ck (0 ≤ (x3).toInt ∧ (x3).toInt < 60) <|
    o_bd (fX2_postOne rf a0 a1 (μ0.1 (rf a2 4) x3.toNatClampNeg) (μ0.1 (rf a2 5) x3.toNatClampNeg) (μ0.1 (rf a2 6) x3.toNatClampNeg) μ0) fun _u μ6 =>
    some ((x3 + 1), μ6))
  else
  if (μ0.1 (rf a2 3) x3.toNatClampNeg) = 17 then (
    o_bd (fX2_become rf a0 a1 1 μ0) fun _u μ7 =>
    some ((x3 + 1), μ7))
  else
  if (μ0.1 (rf a2 3) x3.toNatClampNeg) = 18 then (
    o_bd (fX2_become rf a0 a1 0 μ0) fun _u μ8 =>
    some ((x3 + 1), μ8))
  else
  if (μ0.1 (rf a2 3) x3.toNatClampNeg) = 19 then (
    o_bd (fX2_drawSixteenths rf a0 μ0) fun r3 μ9 =>
    if (μ9.1 a1 4) ≤ r3 then (
      fX2_behindStep_j188 rf x3 a1 0 μ9)
    else (
      fX2_behindStep_j188 rf x3 a1 1 μ9))
  else
  if (μ0.1 (rf a2 3) x3.toNatClampNeg) = 20 then (
    o_ck (0 ≤ (x3).toInt ∧ (x3).toInt < 60) <|
    o_ck (0 ≤ (x3).toInt ∧ (x3).toInt < 60) <|
    o_bd (fX2_holds rf a1 (μ0.1 (rf a2 4) x3.toNatClampNeg) (μ0.1 (rf a2 5) x3.toNatClampNeg) μ0) fun r4 μ10 =>
    if r4 = 0 then (
      o_ck (0 ≤ (x3).toInt ∧ (x3).toInt < 60) <|
      some (((μ10.1 (rf a2 6) x3.toNatClampNeg) + 1), μ10))
    else (
      some ((x3 + 1), μ10)))
  else
  if (μ0.1 (rf a2 3) x3.toNatClampNeg) = 24 then (
    o_ck (0 ≤ (x3).toInt ∧ (x3).toInt < 60) <|
    o_ck (0 ≤ (x3).toInt ∧ (x3).toInt < 60) <|
    o_seq (o_wI μ0 (rf a0 7) x3.toNatClampNeg (μ0.1 (rf a2 4) x3.toNatClampNeg)) fun μ11 =>
    some ((x3 + 1), μ11))
  else
    some ((μ0.1 a2 2), μ0)
set_option maxRecDepth 20000 in
theorem dnX2_behindStep_j188 {X : o_Cx} (hX : o_ok X) {d : Nat} {x3 : Int32} {b0 : Nat} {y1 : Int32} {μ0 : o_Mem} {q : Int32 → o_Mem → Prop} (hb0 : o_is X b0 (.inl 8)) (h : o_Post (fX2_behindStep_j188 (o_rf X) x3 b0 y1 μ0) q) : o_Ev X (d + 4) mX2_behindStep 188 [none, none, none, some (.int x3)] [.int y1, .ref (o_ad X b0)] μ0 (o_QI q) := by
  unfold fX2_behindStep_j188 at h
  have hz := o_ck_c h
  have h := o_ck_k h
  refine s_putZ hX hb0 fwX2_88 rfl hz dX2_behindStep_188 (o_gen h (fun μ1 h => ?_))
  refine s_iload_n (i := 3) dX2_behindStep_191 rfl rfl ?_
  refine s_iconst dX2_behindStep_192 kI_1 ?_
  refine s_iadd dX2_behindStep_193 ?_
  exact s_ireturn rfl dX2_behindStep_194 ⟨_, rfl, o_ret h⟩
set_option maxRecDepth 20000 in
theorem dnX2_behindStep {X : o_Cx} (hX : o_ok X) {d : Nat} {a0 : Nat} {a1 : Nat} {a2 : Nat} {x3 : Int32} {μ0 : o_Mem} {q : Int32 → o_Mem → Prop} (h0 : o_is X a0 (.inl 2)) (h1 : o_is X a1 (.inl 8)) (h2 : o_is X a2 (.inl 3)) (h : o_Post (fX2_behindStep (o_rf X) a0 a1 a2 x3 μ0) q) : o_Ev X (d + 4) mX2_behindStep 0 [some (.ref (o_ad X a0)), some (.ref (o_ad X a1)), some (.ref (o_ad X a2)), some (.int x3)] [] μ0 (o_QI q) := by
  unfold fX2_behindStep at h
  refine s_aload_n (i := 2) dX2_behindStep_0 rfl rfl ?_
  refine s_getR hX h2 flX2_43 rfl dX2_behindStep_1 (fun (g1 : o_is X (o_rf X a2 3) (.inr (0, 60))) => ?_)
  refine s_iload_n (i := 3) dX2_behindStep_4 rfl rfl ?_
  have hc := o_ck_c h
  have h := o_ck_k h
  refine s_ialdK g1 hc rfl dX2_behindStep_5 ?_
  by_cases e15 : (μ0.1 (o_rf X a2 3) x3.toNatClampNeg) = 15
  · have h := o_if_t e15 h
    refine s_table (off := 54) (tgt := 60) dX2_behindStep_6 rfl (by rw [e15]; decide) rfl ?_
    refine s_aload_n (i := 1) dX2_behindStep_60 rfl rfl ?_
    refine s_aload_n (i := 2) dX2_behindStep_61 rfl rfl ?_
    refine s_getR hX h2 flX2_57 rfl dX2_behindStep_62 (fun (g2 : o_is X (o_rf X a2 4) (.inr (0, 60))) => ?_)
    refine s_iload_n (i := 3) dX2_behindStep_65 rfl rfl ?_
    have hc := o_ck_c h
    have h := o_ck_k h
    refine s_ialdK g2 hc rfl dX2_behindStep_66 ?_
    refine s_callVz (C := mX8_hasDays) (As := [.int (μ0.1 (o_rf X a2 4) x3.toNatClampNeg)]) (rest := []) (L0 := [some (.ref (o_ad X a1)), some (.int (μ0.1 (o_rf X a2 4) x3.toNatClampNeg))]) hX h1 clX2_60 dX2_behindStep_67 rfl rfl (Nat.le_of_ble_eq_true rfl) (Nat.le_of_ble_eq_true rfl) (dnX8_hasDays hX h1 (o_bdp h)) (fun r1 μ1 zr1 h => ?_)
    refine s_if_eq (tgt := 110) dX2_behindStep_70 rfl (fun c1 => ?_) (fun c1 => ?_)
    · have h := o_if_t c1 h
      refine s_aload_n (i := 0) dX2_behindStep_110 rfl rfl ?_
      refine s_dup dX2_behindStep_111 rfl ?_
      refine s_getI h0 flX2_15 rfl dX2_behindStep_112 ?_
      refine s_iconst dX2_behindStep_115 kI_1 ?_
      refine s_iadd dX2_behindStep_116 ?_
      refine s_putI hX h0 fwX2_15 rfl dX2_behindStep_117 (o_gen h (fun μ2 h => ?_))
      refine s_iload_n (i := 3) dX2_behindStep_120 rfl rfl ?_
      refine s_iconst dX2_behindStep_121 kI_1 ?_
      refine s_iadd dX2_behindStep_122 ?_
      exact s_ireturn rfl dX2_behindStep_123 ⟨_, rfl, o_ret h⟩
    · have h := o_if_f c1 h
      refine s_aload_n (i := 0) dX2_behindStep_73 rfl rfl ?_
      refine s_dup dX2_behindStep_74 rfl ?_
      refine s_getI h0 flX2_19 rfl dX2_behindStep_75 ?_
      refine s_aload_n (i := 2) dX2_behindStep_78 rfl rfl ?_
      refine s_getR hX h2 flX2_57 rfl dX2_behindStep_79 (fun (g3 : o_is X (o_rf X a2 4) (.inr (0, 60))) => ?_)
      refine s_iload_n (i := 3) dX2_behindStep_82 rfl rfl ?_
      have hc := o_ck_c h
      have h := o_ck_k h
      refine s_ialdK g3 hc rfl dX2_behindStep_83 ?_
      refine s_iadd dX2_behindStep_84 ?_
      refine s_putI hX h0 fwX2_19 rfl dX2_behindStep_85 (o_gen h (fun μ3 h => ?_))
      refine s_aload_n (i := 0) dX2_behindStep_88 rfl rfl ?_
      refine s_dup dX2_behindStep_89 rfl ?_
      refine s_getI h0 flX2_22 rfl dX2_behindStep_90 ?_
      refine s_aload_n (i := 1) dX2_behindStep_93 rfl rfl ?_
      refine s_aload_n (i := 2) dX2_behindStep_94 rfl rfl ?_
      refine s_getR hX h2 flX2_57 rfl dX2_behindStep_95 (fun (g4 : o_is X (o_rf X a2 4) (.inr (0, 60))) => ?_)
      refine s_iload_n (i := 3) dX2_behindStep_98 rfl rfl ?_
      have hc := o_ck_c h
      have h := o_ck_k h
      refine s_ialdK g4 hc rfl dX2_behindStep_99 ?_
      refine s_callVi (C := mX8_goDays) (As := [.int (μ3.1 (o_rf X a2 4) x3.toNatClampNeg)]) (rest := [.int (μ3.1 a0 2), .ref (o_ad X a0)]) (L0 := [some (.ref (o_ad X a1)), some (.int (μ3.1 (o_rf X a2 4) x3.toNatClampNeg)), none, none, none]) hX h1 clX2_66 dX2_behindStep_100 rfl rfl (Nat.le_of_ble_eq_true rfl) (Nat.le_of_ble_eq_true rfl) (dnX8_goDays hX h1 (o_bdp h)) (fun r2 μ4 h => ?_)
      refine s_iadd dX2_behindStep_103 ?_
      refine s_putI hX h0 fwX2_22 rfl dX2_behindStep_104 (o_gen h (fun μ5 h => ?_))
      refine s_goto (tgt := 120) dX2_behindStep_107 rfl ?_
      refine s_iload_n (i := 3) dX2_behindStep_120 rfl rfl ?_
      refine s_iconst dX2_behindStep_121 kI_1 ?_
      refine s_iadd dX2_behindStep_122 ?_
      exact s_ireturn rfl dX2_behindStep_123 ⟨_, rfl, o_ret h⟩
  have h := o_if_f e15 h
  by_cases e16 : (μ0.1 (o_rf X a2 3) x3.toNatClampNeg) = 16
  · have h := o_if_t e16 h
    refine s_table (off := 118) (tgt := 124) dX2_behindStep_6 rfl (by rw [e16]; decide) rfl ?_
    refine s_aload_n (i := 0) dX2_behindStep_124 rfl rfl ?_
    refine s_aload_n (i := 1) dX2_behindStep_125 rfl rfl ?_
    refine s_aload_n (i := 2) dX2_behindStep_126 rfl rfl ?_
    refine s_getR hX h2 flX2_57 rfl dX2_behindStep_127 (fun (g5 : o_is X (o_rf X a2 4) (.inr (0, 60))) => ?_)
    refine s_iload_n (i := 3) dX2_behindStep_130 rfl rfl ?_
    have hc := o_ck_c h
    have h := o_ck_k h
    refine s_ialdK g5 hc rfl dX2_behindStep_131 ?_
    refine s_aload_n (i := 2) dX2_behindStep_132 rfl rfl ?_
    refine s_getR hX h2 flX2_70 rfl dX2_behindStep_133 (fun (g6 : o_is X (o_rf X a2 5) (.inr (0, 60))) => ?_)
    refine s_iload_n (i := 3) dX2_behindStep_136 rfl rfl ?_
    have hc := o_ck_c h
    have h := o_ck_k h
    refine s_ialdK g6 hc rfl dX2_behindStep_137 ?_
    refine s_aload_n (i := 2) dX2_behindStep_138 rfl rfl ?_
    refine s_getR hX h2 flX2_54 rfl dX2_behindStep_139 (fun (g7 : o_is X (o_rf X a2 6) (.inr (0, 60))) => ?_)
    refine s_iload_n (i := 3) dX2_behindStep_142 rfl rfl ?_
    have hc := o_ck_c h
    have h := o_ck_k h
    refine s_ialdK g7 hc rfl dX2_behindStep_143 ?_
    refine s_callVu (C := mX2_postOne) (As := [.ref (o_ad X a1), .int (μ0.1 (o_rf X a2 4) x3.toNatClampNeg), .int (μ0.1 (o_rf X a2 5) x3.toNatClampNeg), .int (μ0.1 (o_rf X a2 6) x3.toNatClampNeg)]) (rest := []) (L0 := [some (.ref (o_ad X a0)), some (.ref (o_ad X a1)), some (.int (μ0.1 (o_rf X a2 4) x3.toNatClampNeg)), some (.int (μ0.1 (o_rf X a2 5) x3.toNatClampNeg)), some (.int (μ0.1 (o_rf X a2 6) x3.toNatClampNeg))]) hX h0 clX2_73 dX2_behindStep_144 rfl rfl (Nat.le_of_ble_eq_true rfl) (Nat.le_of_ble_eq_true rfl) (dnX2_postOne hX h0 h1 (o_bdp h)) (fun _u μ6 h => ?_)
    refine s_iload_n (i := 3) dX2_behindStep_147 rfl rfl ?_
    refine s_iconst dX2_behindStep_148 kI_1 ?_
    refine s_iadd dX2_behindStep_149 ?_
    exact s_ireturn rfl dX2_behindStep_150 ⟨_, rfl, o_ret h⟩
  have h := o_if_f e16 h
  by_cases e17 : (μ0.1 (o_rf X a2 3) x3.toNatClampNeg) = 17
  · have h := o_if_t e17 h
    refine s_table (off := 145) (tgt := 151) dX2_behindStep_6 rfl (by rw [e17]; decide) rfl ?_
    refine s_aload_n (i := 0) dX2_behindStep_151 rfl rfl ?_
    refine s_aload_n (i := 1) dX2_behindStep_152 rfl rfl ?_
    refine s_iconst dX2_behindStep_153 kI_1 ?_
    refine s_callVu (C := mX2_become) (As := [.ref (o_ad X a1), .int 1]) (rest := []) (L0 := [some (.ref (o_ad X a0)), some (.ref (o_ad X a1)), some (.int 1)]) hX h0 clX2_77 dX2_behindStep_154 rfl rfl (Nat.le_of_ble_eq_true rfl) (Nat.le_of_ble_eq_true rfl) (dnX2_become hX h0 h1 (o_bdp h)) (fun _u μ7 h => ?_)
    refine s_iload_n (i := 3) dX2_behindStep_157 rfl rfl ?_
    refine s_iconst dX2_behindStep_158 kI_1 ?_
    refine s_iadd dX2_behindStep_159 ?_
    exact s_ireturn rfl dX2_behindStep_160 ⟨_, rfl, o_ret h⟩
  have h := o_if_f e17 h
  by_cases e18 : (μ0.1 (o_rf X a2 3) x3.toNatClampNeg) = 18
  · have h := o_if_t e18 h
    refine s_table (off := 155) (tgt := 161) dX2_behindStep_6 rfl (by rw [e18]; decide) rfl ?_
    refine s_aload_n (i := 0) dX2_behindStep_161 rfl rfl ?_
    refine s_aload_n (i := 1) dX2_behindStep_162 rfl rfl ?_
    refine s_iconst dX2_behindStep_163 kI_0 ?_
    refine s_callVu (C := mX2_become) (As := [.ref (o_ad X a1), .int 0]) (rest := []) (L0 := [some (.ref (o_ad X a0)), some (.ref (o_ad X a1)), some (.int 0)]) hX h0 clX2_77 dX2_behindStep_164 rfl rfl (Nat.le_of_ble_eq_true rfl) (Nat.le_of_ble_eq_true rfl) (dnX2_become hX h0 h1 (o_bdp h)) (fun _u μ8 h => ?_)
    refine s_iload_n (i := 3) dX2_behindStep_167 rfl rfl ?_
    refine s_iconst dX2_behindStep_168 kI_1 ?_
    refine s_iadd dX2_behindStep_169 ?_
    exact s_ireturn rfl dX2_behindStep_170 ⟨_, rfl, o_ret h⟩
  have h := o_if_f e18 h
  by_cases e19 : (μ0.1 (o_rf X a2 3) x3.toNatClampNeg) = 19
  · have h := o_if_t e19 h
    refine s_table (off := 165) (tgt := 171) dX2_behindStep_6 rfl (by rw [e19]; decide) rfl ?_
    refine s_aload_n (i := 1) dX2_behindStep_171 rfl rfl ?_
    refine s_aload_n (i := 0) dX2_behindStep_172 rfl rfl ?_
    refine s_callVi (C := mX2_drawSixteenths) (As := []) (rest := [.ref (o_ad X a1)]) (L0 := [some (.ref (o_ad X a0))]) hX h0 clX2_81 dX2_behindStep_173 rfl rfl (Nat.le_of_ble_eq_true rfl) (Nat.le_of_ble_eq_true rfl) (dnX2_drawSixteenths hX h0 (o_bdp h)) (fun r3 μ9 h => ?_)
    refine s_aload_n (i := 1) dX2_behindStep_176 rfl rfl ?_
    refine s_getI h1 flX2_85 rfl dX2_behindStep_177 ?_
    refine s_icmp_ge (tgt := 187) dX2_behindStep_180 rfl (fun c1 => ?_) (fun c1 => ?_)
    · have h := o_if_t c1 h
      refine s_iconst dX2_behindStep_187 kI_0 ?_
      refine s_mask [false, false, false, true] (L' := [none, none, none, some (.int x3)]) rfl ?_
      exact dnX2_behindStep_j188 hX h1 h
    · have h := o_if_f c1 h
      refine s_iconst dX2_behindStep_183 kI_1 ?_
      refine s_goto (tgt := 188) dX2_behindStep_184 rfl ?_
      refine s_mask [false, false, false, true] (L' := [none, none, none, some (.int x3)]) rfl ?_
      exact dnX2_behindStep_j188 hX h1 h
  have h := o_if_f e19 h
  by_cases e20 : (μ0.1 (o_rf X a2 3) x3.toNatClampNeg) = 20
  · have h := o_if_t e20 h
    refine s_table (off := 189) (tgt := 195) dX2_behindStep_6 rfl (by rw [e20]; decide) rfl ?_
    refine s_aload_n (i := 1) dX2_behindStep_195 rfl rfl ?_
    refine s_aload_n (i := 2) dX2_behindStep_196 rfl rfl ?_
    refine s_getR hX h2 flX2_57 rfl dX2_behindStep_197 (fun (g8 : o_is X (o_rf X a2 4) (.inr (0, 60))) => ?_)
    refine s_iload_n (i := 3) dX2_behindStep_200 rfl rfl ?_
    have hc := o_ck_c h
    have h := o_ck_k h
    refine s_ialdK g8 hc rfl dX2_behindStep_201 ?_
    refine s_aload_n (i := 2) dX2_behindStep_202 rfl rfl ?_
    refine s_getR hX h2 flX2_70 rfl dX2_behindStep_203 (fun (g9 : o_is X (o_rf X a2 5) (.inr (0, 60))) => ?_)
    refine s_iload_n (i := 3) dX2_behindStep_206 rfl rfl ?_
    have hc := o_ck_c h
    have h := o_ck_k h
    refine s_ialdK g9 hc rfl dX2_behindStep_207 ?_
    refine s_callSz (C := mX2_holds) (As := [.ref (o_ad X a1), .int (μ0.1 (o_rf X a2 4) x3.toNatClampNeg), .int (μ0.1 (o_rf X a2 5) x3.toNatClampNeg)]) (rest := []) (L0 := [some (.ref (o_ad X a1)), some (.int (μ0.1 (o_rf X a2 4) x3.toNatClampNeg)), some (.int (μ0.1 (o_rf X a2 5) x3.toNatClampNeg))]) clX2_92 dX2_behindStep_208 rfl rfl (Nat.le_of_ble_eq_true rfl) (Nat.le_of_ble_eq_true rfl) (dnX2_holds hX h1 (o_bdp h)) (fun r4 μ10 zr4 h => ?_)
    refine s_if_eq (tgt := 220) dX2_behindStep_211 rfl (fun c1 => ?_) (fun c1 => ?_)
    · have h := o_if_t c1 h
      refine s_aload_n (i := 2) dX2_behindStep_220 rfl rfl ?_
      refine s_getR hX h2 flX2_54 rfl dX2_behindStep_221 (fun (g10 : o_is X (o_rf X a2 6) (.inr (0, 60))) => ?_)
      refine s_iload_n (i := 3) dX2_behindStep_224 rfl rfl ?_
      have hc := o_ck_c h
      have h := o_ck_k h
      refine s_ialdK g10 hc rfl dX2_behindStep_225 ?_
      refine s_iconst dX2_behindStep_226 kI_1 ?_
      refine s_iadd dX2_behindStep_227 ?_
      exact s_ireturn rfl dX2_behindStep_228 ⟨_, rfl, o_ret h⟩
    · have h := o_if_f c1 h
      refine s_iload_n (i := 3) dX2_behindStep_214 rfl rfl ?_
      refine s_iconst dX2_behindStep_215 kI_1 ?_
      refine s_iadd dX2_behindStep_216 ?_
      refine s_goto (tgt := 228) dX2_behindStep_217 rfl ?_
      exact s_ireturn rfl dX2_behindStep_228 ⟨_, rfl, o_ret h⟩
  have h := o_if_f e20 h
  by_cases e24 : (μ0.1 (o_rf X a2 3) x3.toNatClampNeg) = 24
  · have h := o_if_t e24 h
    refine s_table (off := 223) (tgt := 229) dX2_behindStep_6 rfl (by rw [e24]; decide) rfl ?_
    refine s_aload_n (i := 0) dX2_behindStep_229 rfl rfl ?_
    refine s_getR hX h0 flX2_9 rfl dX2_behindStep_230 (fun (g11 : o_is X (o_rf X a0 7) (.inr (0, 60))) => ?_)
    refine s_iload_n (i := 3) dX2_behindStep_233 rfl rfl ?_
    refine s_aload_n (i := 2) dX2_behindStep_234 rfl rfl ?_
    refine s_getR hX h2 flX2_57 rfl dX2_behindStep_235 (fun (g12 : o_is X (o_rf X a2 4) (.inr (0, 60))) => ?_)
    refine s_iload_n (i := 3) dX2_behindStep_238 rfl rfl ?_
    have hc := o_ck_c h
    have h := o_ck_k h
    refine s_ialdK g12 hc rfl dX2_behindStep_239 ?_
    have hc := o_ck_c h
    have h := o_ck_k h
    refine s_iastK hX g11 hc rfl dX2_behindStep_240 (o_gen h (fun μ11 h => ?_))
    refine s_iload_n (i := 3) dX2_behindStep_241 rfl rfl ?_
    refine s_iconst dX2_behindStep_242 kI_1 ?_
    refine s_iadd dX2_behindStep_243 ?_
    exact s_ireturn rfl dX2_behindStep_244 ⟨_, rfl, o_ret h⟩
  have h := o_if_f e24 h
  have n15 := lv_neT (a := 15) e15 (by decide)
  have n16 := lv_neT (a := 16) e16 (by decide)
  have n17 := lv_neT (a := 17) e17 (by decide)
  have n18 := lv_neT (a := 18) e18 (by decide)
  have n19 := lv_neT (a := 19) e19 (by decide)
  have n20 := lv_neT (a := 20) e20 (by decide)
  have n24 := lv_neT (a := 24) e24 (by decide)
  have hz : ((μ0.1 (o_rf X a2 3) x3.toNatClampNeg)).toInt < 15 ∨ 24 < ((μ0.1 (o_rf X a2 3) x3.toNatClampNeg)).toInt ∨ ((μ0.1 (o_rf X a2 3) x3.toNatClampNeg)).toInt = 21 ∨ ((μ0.1 (o_rf X a2 3) x3.toNatClampNeg)).toInt = 22 ∨ ((μ0.1 (o_rf X a2 3) x3.toNatClampNeg)).toInt = 23 := by omega
  refine s_table (off := 239) (tgt := 245) dX2_behindStep_6 rfl (by rcases hz with hz | hz | hz | hz | hz; exact o_tabD (Or.inl hz); exact o_tabD (Or.inr hz); all_goals (rw [hz]; decide)) rfl ?_
  refine s_aload_n (i := 2) dX2_behindStep_245 rfl rfl ?_
  refine s_getI h2 flX2_38 rfl dX2_behindStep_246 ?_
  exact s_ireturn rfl dX2_behindStep_249 ⟨_, rfl, o_ret h⟩
theorem dX2_behindEnd_0 : decode cX2_behindEnd 0 = .ok (.aload_n 1, 1) := by decide +kernel
theorem dX2_behindEnd_1 : decode cX2_behindEnd 1 = .ok (.getfield 54, 3) := by decide +kernel
theorem dX2_behindEnd_4 : decode cX2_behindEnd 4 = .ok (.iload_n 2, 1) := by decide +kernel
theorem dX2_behindEnd_5 : decode cX2_behindEnd 5 = .ok (.iaload, 1) := by decide +kernel
theorem dX2_behindEnd_6 : decode cX2_behindEnd 6 = .ok (.istore_n 3, 1) := by decide +kernel
theorem dX2_behindEnd_7 : decode cX2_behindEnd 7 = .ok (.aload_n 1, 1) := by decide +kernel
theorem dX2_behindEnd_8 : decode cX2_behindEnd 8 = .ok (.getfield 43, 3) := by decide +kernel
theorem dX2_behindEnd_11 : decode cX2_behindEnd 11 = .ok (.iload_n 3, 1) := by decide +kernel
theorem dX2_behindEnd_12 : decode cX2_behindEnd 12 = .ok (.iaload, 1) := by decide +kernel
theorem dX2_behindEnd_13 : decode cX2_behindEnd 13 = .ok (.bipush 24, 2) := by decide +kernel
theorem dX2_behindEnd_15 : decode cX2_behindEnd 15 = .ok (.if_icmp .ne 26, 3) := by decide +kernel
theorem dX2_behindEnd_18 : decode cX2_behindEnd 18 = .ok (.aload_n 0, 1) := by decide +kernel
theorem dX2_behindEnd_19 : decode cX2_behindEnd 19 = .ok (.getfield 9, 3) := by decide +kernel
theorem dX2_behindEnd_22 : decode cX2_behindEnd 22 = .ok (.iload_n 3, 1) := by decide +kernel
theorem dX2_behindEnd_23 : decode cX2_behindEnd 23 = .ok (.dup2, 1) := by decide +kernel
theorem dX2_behindEnd_24 : decode cX2_behindEnd 24 = .ok (.iaload, 1) := by decide +kernel
theorem dX2_behindEnd_25 : decode cX2_behindEnd 25 = .ok (.iconst 1, 1) := by decide +kernel
theorem dX2_behindEnd_26 : decode cX2_behindEnd 26 = .ok (.isub, 1) := by decide +kernel
theorem dX2_behindEnd_27 : decode cX2_behindEnd 27 = .ok (.iastore, 1) := by decide +kernel
theorem dX2_behindEnd_28 : decode cX2_behindEnd 28 = .ok (.aload_n 0, 1) := by decide +kernel
theorem dX2_behindEnd_29 : decode cX2_behindEnd 29 = .ok (.getfield 9, 3) := by decide +kernel
theorem dX2_behindEnd_32 : decode cX2_behindEnd 32 = .ok (.iload_n 3, 1) := by decide +kernel
theorem dX2_behindEnd_33 : decode cX2_behindEnd 33 = .ok (.iaload, 1) := by decide +kernel
theorem dX2_behindEnd_34 : decode cX2_behindEnd 34 = .ok (.ifCond .le 7, 3) := by decide +kernel
theorem dX2_behindEnd_37 : decode cX2_behindEnd 37 = .ok (.iload_n 3, 1) := by decide +kernel
theorem dX2_behindEnd_38 : decode cX2_behindEnd 38 = .ok (.iconst 1, 1) := by decide +kernel
theorem dX2_behindEnd_39 : decode cX2_behindEnd 39 = .ok (.iadd, 1) := by decide +kernel
theorem dX2_behindEnd_40 : decode cX2_behindEnd 40 = .ok (.ireturn, 1) := by decide +kernel
theorem dX2_behindEnd_41 : decode cX2_behindEnd 41 = .ok (.iload_n 2, 1) := by decide +kernel
theorem dX2_behindEnd_42 : decode cX2_behindEnd 42 = .ok (.iconst 1, 1) := by decide +kernel
theorem dX2_behindEnd_43 : decode cX2_behindEnd 43 = .ok (.iadd, 1) := by decide +kernel
theorem dX2_behindEnd_44 : decode cX2_behindEnd 44 = .ok (.ireturn, 1) := by decide +kernel
noncomputable def fX2_behindEnd (rf : Nat → Nat → Nat) (a0 : Nat) (a1 : Nat) (x2 : Int32) (μ0 : o_Mem) : Option (Int32 × o_Mem) :=
  o_ck (0 ≤ (x2).toInt ∧ (x2).toInt < 60) <|
  o_ck (0 ≤ ((μ0.1 (rf a1 6) x2.toNatClampNeg)).toInt ∧ ((μ0.1 (rf a1 6) x2.toNatClampNeg)).toInt < 60) <|
  if (μ0.1 (rf a1 3) ((μ0.1 (rf a1 6) x2.toNatClampNeg)).toNatClampNeg) = 24 then (
    o_ck (0 ≤ ((μ0.1 (rf a1 6) x2.toNatClampNeg)).toInt ∧ ((μ0.1 (rf a1 6) x2.toNatClampNeg)).toInt < 60) <|
    o_ck (0 ≤ ((μ0.1 (rf a1 6) x2.toNatClampNeg)).toInt ∧ ((μ0.1 (rf a1 6) x2.toNatClampNeg)).toInt < 60) <|
    o_seq (o_wI μ0 (rf a0 7) (((μ0.1 (rf a1 6) x2.toNatClampNeg)).toNatClampNeg) ((μ0.1 (rf a0 7) ((μ0.1 (rf a1 6) x2.toNatClampNeg)).toNatClampNeg) - 1)) fun μ1 =>
    o_ck (0 ≤ ((μ0.1 (rf a1 6) x2.toNatClampNeg)).toInt ∧ ((μ0.1 (rf a1 6) x2.toNatClampNeg)).toInt < 60) <|
    if (μ1.1 (rf a0 7) ((μ0.1 (rf a1 6) x2.toNatClampNeg)).toNatClampNeg) ≤ 0 then (
      some ((x2 + 1), μ1))
    else (
      some (((μ0.1 (rf a1 6) x2.toNatClampNeg) + 1), μ1)))
  else (
    some ((x2 + 1), μ0))
set_option maxRecDepth 20000 in
theorem dnX2_behindEnd {X : o_Cx} (hX : o_ok X) {d : Nat} {a0 : Nat} {a1 : Nat} {x2 : Int32} {μ0 : o_Mem} {q : Int32 → o_Mem → Prop} (h0 : o_is X a0 (.inl 2)) (h1 : o_is X a1 (.inl 3)) (h : o_Post (fX2_behindEnd (o_rf X) a0 a1 x2 μ0) q) : o_Ev X (d + 0) mX2_behindEnd 0 [some (.ref (o_ad X a0)), some (.ref (o_ad X a1)), some (.int x2), none] [] μ0 (o_QI q) := by
  unfold fX2_behindEnd at h
  refine s_aload_n (i := 1) dX2_behindEnd_0 rfl rfl ?_
  refine s_getR hX h1 flX2_54 rfl dX2_behindEnd_1 (fun (g1 : o_is X (o_rf X a1 6) (.inr (0, 60))) => ?_)
  refine s_iload_n (i := 2) dX2_behindEnd_4 rfl rfl ?_
  have hc := o_ck_c h
  have h := o_ck_k h
  refine s_ialdK g1 hc rfl dX2_behindEnd_5 ?_
  refine s_istore_n (i := 3) dX2_behindEnd_6 rfl (Nat.le_of_ble_eq_true rfl) rfl ?_
  refine s_aload_n (i := 1) dX2_behindEnd_7 rfl rfl ?_
  refine s_getR hX h1 flX2_43 rfl dX2_behindEnd_8 (fun (g2 : o_is X (o_rf X a1 3) (.inr (0, 60))) => ?_)
  refine s_iload_n (i := 3) dX2_behindEnd_11 rfl rfl ?_
  have hc := o_ck_c h
  have h := o_ck_k h
  refine s_ialdK g2 hc rfl dX2_behindEnd_12 ?_
  refine s_bipush dX2_behindEnd_13 kB_24 ?_
  refine s_icmp_ne (tgt := 41) dX2_behindEnd_15 rfl (fun c1 => ?_) (fun c1 => ?_)
  · have h := o_if_f c1 h
    refine s_iload_n (i := 2) dX2_behindEnd_41 rfl rfl ?_
    refine s_iconst dX2_behindEnd_42 kI_1 ?_
    refine s_iadd dX2_behindEnd_43 ?_
    exact s_ireturn rfl dX2_behindEnd_44 ⟨_, rfl, o_ret h⟩
  · have h := o_if_t c1 h
    refine s_aload_n (i := 0) dX2_behindEnd_18 rfl rfl ?_
    refine s_getR hX h0 flX2_9 rfl dX2_behindEnd_19 (fun (g3 : o_is X (o_rf X a0 7) (.inr (0, 60))) => ?_)
    refine s_iload_n (i := 3) dX2_behindEnd_22 rfl rfl ?_
    refine s_dup2 dX2_behindEnd_23 rfl rfl ?_
    have hc := o_ck_c h
    have h := o_ck_k h
    refine s_ialdK g3 hc rfl dX2_behindEnd_24 ?_
    refine s_iconst dX2_behindEnd_25 kI_1 ?_
    refine s_isub dX2_behindEnd_26 ?_
    have hc := o_ck_c h
    have h := o_ck_k h
    refine s_iastK hX g3 hc rfl dX2_behindEnd_27 (o_gen h (fun μ1 h => ?_))
    refine s_aload_n (i := 0) dX2_behindEnd_28 rfl rfl ?_
    refine s_getR hX h0 flX2_9 rfl dX2_behindEnd_29 (fun (g4 : o_is X (o_rf X a0 7) (.inr (0, 60))) => ?_)
    refine s_iload_n (i := 3) dX2_behindEnd_32 rfl rfl ?_
    have hc := o_ck_c h
    have h := o_ck_k h
    refine s_ialdK g4 hc rfl dX2_behindEnd_33 ?_
    refine s_if_le (tgt := 41) dX2_behindEnd_34 rfl (fun c1 => ?_) (fun c1 => ?_)
    · have h := o_if_t c1 h
      refine s_iload_n (i := 2) dX2_behindEnd_41 rfl rfl ?_
      refine s_iconst dX2_behindEnd_42 kI_1 ?_
      refine s_iadd dX2_behindEnd_43 ?_
      exact s_ireturn rfl dX2_behindEnd_44 ⟨_, rfl, o_ret h⟩
    · have h := o_if_f c1 h
      refine s_iload_n (i := 3) dX2_behindEnd_37 rfl rfl ?_
      refine s_iconst dX2_behindEnd_38 kI_1 ?_
      refine s_iadd dX2_behindEnd_39 ?_
      exact s_ireturn rfl dX2_behindEnd_40 ⟨_, rfl, o_ret h⟩
theorem dX2_run_0 : decode cX2_run 0 = .ok (.aload_n 0, 1) := by decide +kernel
theorem dX2_run_1 : decode cX2_run 1 = .ok (.iconst 0, 1) := by decide +kernel
theorem dX2_run_2 : decode cX2_run 2 = .ok (.putfield 15, 3) := by decide +kernel
theorem dX2_run_5 : decode cX2_run 5 = .ok (.aload_n 0, 1) := by decide +kernel
theorem dX2_run_6 : decode cX2_run 6 = .ok (.iconst 0, 1) := by decide +kernel
theorem dX2_run_7 : decode cX2_run 7 = .ok (.putfield 19, 3) := by decide +kernel
theorem dX2_run_10 : decode cX2_run 10 = .ok (.aload_n 0, 1) := by decide +kernel
theorem dX2_run_11 : decode cX2_run 11 = .ok (.iconst 0, 1) := by decide +kernel
theorem dX2_run_12 : decode cX2_run 12 = .ok (.putfield 22, 3) := by decide +kernel
theorem dX2_run_15 : decode cX2_run 15 = .ok (.aload_n 0, 1) := by decide +kernel
theorem dX2_run_16 : decode cX2_run 16 = .ok (.iconst 0, 1) := by decide +kernel
theorem dX2_run_17 : decode cX2_run 17 = .ok (.putfield 25, 3) := by decide +kernel
theorem dX2_run_20 : decode cX2_run 20 = .ok (.aload_n 0, 1) := by decide +kernel
theorem dX2_run_21 : decode cX2_run 21 = .ok (.iconst 0, 1) := by decide +kernel
theorem dX2_run_22 : decode cX2_run 22 = .ok (.putfield 28, 3) := by decide +kernel
theorem dX2_run_25 : decode cX2_run 25 = .ok (.aload_n 0, 1) := by decide +kernel
theorem dX2_run_26 : decode cX2_run 26 = .ok (.iconst 0, 1) := by decide +kernel
theorem dX2_run_27 : decode cX2_run 27 = .ok (.putfield 31, 3) := by decide +kernel
theorem dX2_run_30 : decode cX2_run 30 = .ok (.aload_n 0, 1) := by decide +kernel
theorem dX2_run_31 : decode cX2_run 31 = .ok (.iload_n 3, 1) := by decide +kernel
theorem dX2_run_32 : decode cX2_run 32 = .ok (.putfield 34, 3) := by decide +kernel
theorem dX2_run_35 : decode cX2_run 35 = .ok (.iconst 0, 1) := by decide +kernel
theorem dX2_run_36 : decode cX2_run 36 = .ok (.istore 4, 2) := by decide +kernel
theorem dX2_run_38 : decode cX2_run 38 = .ok (.iconst 0, 1) := by decide +kernel
theorem dX2_run_39 : decode cX2_run 39 = .ok (.istore 5, 2) := by decide +kernel
theorem dX2_run_41 : decode cX2_run 41 = .ok (.iload 5, 2) := by decide +kernel
theorem dX2_run_43 : decode cX2_run 43 = .ok (.ldc 37, 2) := by decide +kernel
theorem dX2_run_45 : decode cX2_run 45 = .ok (.if_icmp .ge 86, 3) := by decide +kernel
theorem dX2_run_48 : decode cX2_run 48 = .ok (.iload 4, 2) := by decide +kernel
theorem dX2_run_50 : decode cX2_run 50 = .ok (.aload_n 2, 1) := by decide +kernel
theorem dX2_run_51 : decode cX2_run 51 = .ok (.getfield 38, 3) := by decide +kernel
theorem dX2_run_54 : decode cX2_run 54 = .ok (.if_icmp .ge 77, 3) := by decide +kernel
theorem dX2_run_57 : decode cX2_run 57 = .ok (.aload_n 2, 1) := by decide +kernel
theorem dX2_run_58 : decode cX2_run 58 = .ok (.getfield 43, 3) := by decide +kernel
theorem dX2_run_61 : decode cX2_run 61 = .ok (.iload 4, 2) := by decide +kernel
theorem dX2_run_63 : decode cX2_run 63 = .ok (.iaload, 1) := by decide +kernel
theorem dX2_run_64 : decode cX2_run 64 = .ok (.bipush 25, 2) := by decide +kernel
theorem dX2_run_66 : decode cX2_run 66 = .ok (.if_icmp .ne 15, 3) := by decide +kernel
theorem dX2_run_69 : decode cX2_run 69 = .ok (.aload_n 0, 1) := by decide +kernel
theorem dX2_run_70 : decode cX2_run 70 = .ok (.aload_n 2, 1) := by decide +kernel
theorem dX2_run_71 : decode cX2_run 71 = .ok (.iload 4, 2) := by decide +kernel
theorem dX2_run_73 : decode cX2_run 73 = .ok (.invokevirtual 46, 3) := by decide +kernel
theorem dX2_run_76 : decode cX2_run 76 = .ok (.istore 4, 2) := by decide +kernel
theorem dX2_run_78 : decode cX2_run 78 = .ok (.goto 47, 3) := by decide +kernel
theorem dX2_run_81 : decode cX2_run 81 = .ok (.aload_n 0, 1) := by decide +kernel
theorem dX2_run_82 : decode cX2_run 82 = .ok (.getfield 31, 3) := by decide +kernel
theorem dX2_run_85 : decode cX2_run 85 = .ok (.sipush 300, 3) := by decide +kernel
theorem dX2_run_88 : decode cX2_run 88 = .ok (.if_icmp .lt 17, 3) := by decide +kernel
theorem dX2_run_91 : decode cX2_run 91 = .ok (.aload_n 0, 1) := by decide +kernel
theorem dX2_run_92 : decode cX2_run 92 = .ok (.iconst 1, 1) := by decide +kernel
theorem dX2_run_93 : decode cX2_run 93 = .ok (.putfield 28, 3) := by decide +kernel
theorem dX2_run_96 : decode cX2_run 96 = .ok (.aload_n 2, 1) := by decide +kernel
theorem dX2_run_97 : decode cX2_run 97 = .ok (.getfield 38, 3) := by decide +kernel
theorem dX2_run_100 : decode cX2_run 100 = .ok (.istore 4, 2) := by decide +kernel
theorem dX2_run_102 : decode cX2_run 102 = .ok (.goto 23, 3) := by decide +kernel
theorem dX2_run_105 : decode cX2_run 105 = .ok (.aload_n 0, 1) := by decide +kernel
theorem dX2_run_106 : decode cX2_run 106 = .ok (.dup, 1) := by decide +kernel
theorem dX2_run_107 : decode cX2_run 107 = .ok (.getfield 31, 3) := by decide +kernel
theorem dX2_run_110 : decode cX2_run 110 = .ok (.iconst 1, 1) := by decide +kernel
theorem dX2_run_111 : decode cX2_run 111 = .ok (.iadd, 1) := by decide +kernel
theorem dX2_run_112 : decode cX2_run 112 = .ok (.putfield 31, 3) := by decide +kernel
theorem dX2_run_115 : decode cX2_run 115 = .ok (.aload_n 0, 1) := by decide +kernel
theorem dX2_run_116 : decode cX2_run 116 = .ok (.aload_n 1, 1) := by decide +kernel
theorem dX2_run_117 : decode cX2_run 117 = .ok (.aload_n 2, 1) := by decide +kernel
theorem dX2_run_118 : decode cX2_run 118 = .ok (.iload 4, 2) := by decide +kernel
theorem dX2_run_120 : decode cX2_run 120 = .ok (.invokevirtual 50, 3) := by decide +kernel
theorem dX2_run_123 : decode cX2_run 123 = .ok (.istore 4, 2) := by decide +kernel
theorem dX2_run_125 : decode cX2_run 125 = .ok (.iinc 5 1, 3) := by decide +kernel
theorem dX2_run_128 : decode cX2_run 128 = .ok (.goto (-87), 3) := by decide +kernel
theorem dX2_run_131 : decode cX2_run 131 = .ok (.return_, 1) := by decide +kernel
noncomputable def fX2_run_s41 (rf : Nat → Nat → Nat) (a0 : Nat) (a1 : Nat) (a2 : Nat) (τ41 : Int32 × Int32) (μ0 : o_Mem) : Option ((Nat × (Int32 × Int32)) × o_Mem) :=
  if 1000000 ≤ τ41.2 then (
    some ((131, (0, 0)), μ0))
  else (
    if (μ0.1 a2 2) ≤ τ41.1 then (
      some ((131, (0, 0)), μ0))
    else (
      o_ck (0 ≤ (τ41.1).toInt ∧ (τ41.1).toInt < 60) <|
      if (μ0.1 (rf a2 3) (τ41.1).toNatClampNeg) = 25 then (
        o_bd (fX2_behindEnd rf a0 a2 τ41.1 μ0) fun r2 μ4 =>
        some ((41, (r2, (τ41.2 + 1))), μ4))
      else (
        if (μ0.1 a0 5) < 300 then (
          o_seq (o_wI μ0 a0 5 ((μ0.1 a0 5) + 1)) fun μ1 =>
          o_bd (fX2_behindStep rf a0 a1 a2 τ41.1 μ1) fun r1 μ2 =>
          some ((41, (r1, (τ41.2 + 1))), μ2))
        else (
          o_seq (o_wI μ0 a0 4 1) fun μ3 =>
          some ((41, ((μ3.1 a2 2), (τ41.2 + 1))), μ3)))))
noncomputable def fX2_run (rf : Nat → Nat → Nat) (a0 : Nat) (a1 : Nat) (a2 : Nat) (x3 : Int32) (μ0 : o_Mem) : Option (Unit × o_Mem) :=
  o_seq (o_wI μ0 a0 0 0) fun μ1 =>
  o_seq (o_wI μ1 a0 1 0) fun μ2 =>
  o_seq (o_wI μ2 a0 2 0) fun μ3 =>
  o_seq (o_wI μ3 a0 3 0) fun μ4 =>
  o_seq (o_wI μ4 a0 4 0) fun μ5 =>
  o_seq (o_wI μ5 a0 5 0) fun μ6 =>
  o_seq (o_wI μ6 a0 6 x3) fun μ7 =>
  o_bd (o_lp 41 (fX2_run_s41 rf a0 a1 a2) o_fuel (0, 0) μ7) fun ex8 μ8 =>
  if ex8.1 = 131 then (
    some ((), μ8))
  else
    none
set_option maxRecDepth 20000 in
theorem dnX2_run_s41 {X : o_Cx} (hX : o_ok X) {d : Nat} {a0 : Nat} {a1 : Nat} {a2 : Nat} {τ41 : Int32 × Int32} {μ0 : o_Mem} {K : (Nat × (Int32 × Int32)) → o_Mem → Prop} {Q : Option Value → o_Mem → Prop} (h0 : o_is X a0 (.inl 2)) (h1 : o_is X a1 (.inl 8)) (h2 : o_is X a2 (.inl 3)) (h : o_Post (fX2_run_s41 (o_rf X) a0 a1 a2 τ41 μ0) K) (kh : ∀ (τ41 : Int32 × Int32) (μ : o_Mem), K (41, τ41) μ → o_Ev X (d + 5) mX2_run 41 [some (.ref (o_ad X a0)), some (.ref (o_ad X a1)), some (.ref (o_ad X a2)), none, some (.int τ41.1), some (.int τ41.2)] [] μ Q) (k131 : ∀ (τ41 : Int32 × Int32) (μ : o_Mem), K (131, τ41) μ → o_Ev X (d + 5) mX2_run 131 [none, none, none, none, none, none] [] μ Q) : o_Ev X (d + 5) mX2_run 41 [some (.ref (o_ad X a0)), some (.ref (o_ad X a1)), some (.ref (o_ad X a2)), none, some (.int τ41.1), some (.int τ41.2)] [] μ0 Q := by
  unfold fX2_run_s41 at h
  refine s_iload dX2_run_41 rfl ?_
  refine s_ldc (v := 1000000) w_6_57 dX2_run_43 ?_
  refine s_icmp_ge (tgt := 131) dX2_run_45 rfl (fun c1 => ?_) (fun c1 => ?_)
  · have h := o_if_t c1 h
    refine s_mask [false, false, false, false, false, false] (L' := [none, none, none, none, none, none]) rfl ?_
    exact k131 (0, 0) _ (o_ret h)
  · have h := o_if_f c1 h
    refine s_iload dX2_run_48 rfl ?_
    refine s_aload_n (i := 2) dX2_run_50 rfl rfl ?_
    refine s_getI h2 flX2_38 rfl dX2_run_51 ?_
    refine s_icmp_ge (tgt := 131) dX2_run_54 rfl (fun c1 => ?_) (fun c1 => ?_)
    · have h := o_if_t c1 h
      refine s_mask [false, false, false, false, false, false] (L' := [none, none, none, none, none, none]) rfl ?_
      exact k131 (0, 0) _ (o_ret h)
    · have h := o_if_f c1 h
      refine s_aload_n (i := 2) dX2_run_57 rfl rfl ?_
      refine s_getR hX h2 flX2_43 rfl dX2_run_58 (fun (g1 : o_is X (o_rf X a2 3) (.inr (0, 60))) => ?_)
      refine s_iload dX2_run_61 rfl ?_
      have hc := o_ck_c h
      have h := o_ck_k h
      refine s_ialdK g1 hc rfl dX2_run_63 ?_
      refine s_bipush dX2_run_64 kB_25 ?_
      refine s_icmp_ne (tgt := 81) dX2_run_66 rfl (fun c1 => ?_) (fun c1 => ?_)
      · have h := o_if_f c1 h
        refine s_aload_n (i := 0) dX2_run_81 rfl rfl ?_
        refine s_getI h0 flX2_31 rfl dX2_run_82 ?_
        refine s_sipush dX2_run_85 kS_300 ?_
        refine s_icmp_lt (tgt := 105) dX2_run_88 rfl (fun c1 => ?_) (fun c1 => ?_)
        · have h := o_if_t c1 h
          refine s_aload_n (i := 0) dX2_run_105 rfl rfl ?_
          refine s_dup dX2_run_106 rfl ?_
          refine s_getI h0 flX2_31 rfl dX2_run_107 ?_
          refine s_iconst dX2_run_110 kI_1 ?_
          refine s_iadd dX2_run_111 ?_
          refine s_putI hX h0 fwX2_31 rfl dX2_run_112 (o_gen h (fun μ1 h => ?_))
          refine s_aload_n (i := 0) dX2_run_115 rfl rfl ?_
          refine s_aload_n (i := 1) dX2_run_116 rfl rfl ?_
          refine s_aload_n (i := 2) dX2_run_117 rfl rfl ?_
          refine s_iload dX2_run_118 rfl ?_
          refine s_callVi (C := mX2_behindStep) (As := [.ref (o_ad X a1), .ref (o_ad X a2), .int τ41.1]) (rest := []) (L0 := [some (.ref (o_ad X a0)), some (.ref (o_ad X a1)), some (.ref (o_ad X a2)), some (.int τ41.1)]) hX h0 clX2_50 dX2_run_120 rfl rfl (Nat.le_of_ble_eq_true rfl) (Nat.le_of_ble_eq_true rfl) (dnX2_behindStep hX h0 h1 h2 (o_bdp h)) (fun r1 μ2 h => ?_)
          refine s_istore dX2_run_123 (Nat.le_of_ble_eq_true rfl) rfl ?_
          refine s_iinc (v := (τ41.2 + 1)) dX2_run_125 rfl rfl (Nat.le_of_ble_eq_true rfl) rfl ?_
          refine s_goto (tgt := 41) dX2_run_128 rfl ?_
          refine s_mask [true, true, true, false, true, true] (L' := [some (.ref (o_ad X a0)), some (.ref (o_ad X a1)), some (.ref (o_ad X a2)), none, some (.int r1), some (.int (τ41.2 + 1))]) rfl ?_
          exact kh (r1, (τ41.2 + 1)) _ (o_ret h)
        · have h := o_if_f c1 h
          refine s_aload_n (i := 0) dX2_run_91 rfl rfl ?_
          refine s_iconst dX2_run_92 kI_1 ?_
          refine s_putI hX h0 fwX2_28 rfl dX2_run_93 (o_gen h (fun μ3 h => ?_))
          refine s_aload_n (i := 2) dX2_run_96 rfl rfl ?_
          refine s_getI h2 flX2_38 rfl dX2_run_97 ?_
          refine s_istore dX2_run_100 (Nat.le_of_ble_eq_true rfl) rfl ?_
          refine s_goto (tgt := 125) dX2_run_102 rfl ?_
          refine s_iinc (v := (τ41.2 + 1)) dX2_run_125 rfl rfl (Nat.le_of_ble_eq_true rfl) rfl ?_
          refine s_goto (tgt := 41) dX2_run_128 rfl ?_
          refine s_mask [true, true, true, false, true, true] (L' := [some (.ref (o_ad X a0)), some (.ref (o_ad X a1)), some (.ref (o_ad X a2)), none, some (.int (μ3.1 a2 2)), some (.int (τ41.2 + 1))]) rfl ?_
          exact kh ((μ3.1 a2 2), (τ41.2 + 1)) _ (o_ret h)
      · have h := o_if_t c1 h
        refine s_aload_n (i := 0) dX2_run_69 rfl rfl ?_
        refine s_aload_n (i := 2) dX2_run_70 rfl rfl ?_
        refine s_iload dX2_run_71 rfl ?_
        refine s_callVi (C := mX2_behindEnd) (As := [.ref (o_ad X a2), .int τ41.1]) (rest := []) (L0 := [some (.ref (o_ad X a0)), some (.ref (o_ad X a2)), some (.int τ41.1), none]) hX h0 clX2_46 dX2_run_73 rfl rfl (Nat.le_of_ble_eq_true rfl) (Nat.le_of_ble_eq_true rfl) (dnX2_behindEnd hX h0 h2 (o_bdp h)) (fun r2 μ4 h => ?_)
        refine s_istore dX2_run_76 (Nat.le_of_ble_eq_true rfl) rfl ?_
        refine s_goto (tgt := 125) dX2_run_78 rfl ?_
        refine s_iinc (v := (τ41.2 + 1)) dX2_run_125 rfl rfl (Nat.le_of_ble_eq_true rfl) rfl ?_
        refine s_goto (tgt := 41) dX2_run_128 rfl ?_
        refine s_mask [true, true, true, false, true, true] (L' := [some (.ref (o_ad X a0)), some (.ref (o_ad X a1)), some (.ref (o_ad X a2)), none, some (.int r2), some (.int (τ41.2 + 1))]) rfl ?_
        exact kh (r2, (τ41.2 + 1)) _ (o_ret h)
set_option maxRecDepth 20000 in
theorem dnX2_run {X : o_Cx} (hX : o_ok X) {d : Nat} {a0 : Nat} {a1 : Nat} {a2 : Nat} {x3 : Int32} {μ0 : o_Mem} {q : Unit → o_Mem → Prop} (h0 : o_is X a0 (.inl 2)) (h1 : o_is X a1 (.inl 8)) (h2 : o_is X a2 (.inl 3)) (h : o_Post (fX2_run (o_rf X) a0 a1 a2 x3 μ0) q) : o_Ev X (d + 5) mX2_run 0 [some (.ref (o_ad X a0)), some (.ref (o_ad X a1)), some (.ref (o_ad X a2)), some (.int x3), none, none] [] μ0 (o_QU q) := by
  unfold fX2_run at h
  refine s_aload_n (i := 0) dX2_run_0 rfl rfl ?_
  refine s_iconst dX2_run_1 kI_0 ?_
  refine s_putI hX h0 fwX2_15 rfl dX2_run_2 (o_gen h (fun μ1 h => ?_))
  refine s_aload_n (i := 0) dX2_run_5 rfl rfl ?_
  refine s_iconst dX2_run_6 kI_0 ?_
  refine s_putI hX h0 fwX2_19 rfl dX2_run_7 (o_gen h (fun μ2 h => ?_))
  refine s_aload_n (i := 0) dX2_run_10 rfl rfl ?_
  refine s_iconst dX2_run_11 kI_0 ?_
  refine s_putI hX h0 fwX2_22 rfl dX2_run_12 (o_gen h (fun μ3 h => ?_))
  refine s_aload_n (i := 0) dX2_run_15 rfl rfl ?_
  refine s_iconst dX2_run_16 kI_0 ?_
  refine s_putI hX h0 fwX2_25 rfl dX2_run_17 (o_gen h (fun μ4 h => ?_))
  refine s_aload_n (i := 0) dX2_run_20 rfl rfl ?_
  refine s_iconst dX2_run_21 kI_0 ?_
  refine s_putI hX h0 fwX2_28 rfl dX2_run_22 (o_gen h (fun μ5 h => ?_))
  refine s_aload_n (i := 0) dX2_run_25 rfl rfl ?_
  refine s_iconst dX2_run_26 kI_0 ?_
  refine s_putI hX h0 fwX2_31 rfl dX2_run_27 (o_gen h (fun μ6 h => ?_))
  refine s_aload_n (i := 0) dX2_run_30 rfl rfl ?_
  refine s_iload_n (i := 3) dX2_run_31 rfl rfl ?_
  refine s_putI hX h0 fwX2_34 rfl dX2_run_32 (o_gen h (fun μ7 h => ?_))
  refine s_iconst dX2_run_35 kI_0 ?_
  refine s_istore dX2_run_36 (Nat.le_of_ble_eq_true rfl) rfl ?_
  refine s_iconst dX2_run_38 kI_0 ?_
  refine s_istore dX2_run_39 (Nat.le_of_ble_eq_true rfl) rfl ?_
  refine s_mask [true, true, true, false, true, true] (L' := [some (.ref (o_ad X a0)), some (.ref (o_ad X a1)), some (.ref (o_ad X a2)), none, some (.int 0), some (.int 0)]) rfl ?_
  refine o_lp_ev (fun τ41 => [some (.ref (o_ad X a0)), some (.ref (o_ad X a1)), some (.ref (o_ad X a2)), none, some (.int τ41.1), some (.int τ41.2)]) (fun τ41 μ _K h kv ke41 => dnX2_run_s41 hX h0 h1 h2 h kv (fun τ41 μ8 h => ?_)) o_fuel (0, 0) μ7 (o_bdp h)
  · have h := o_if_t rfl (ke41 (131, τ41) μ8 (o_ne rfl) h)
    exact s_return rfl dX2_run_131 ⟨rfl, o_ret h⟩
theorem dX3_clear_0 : decode cX3_clear 0 = .ok (.aload_n 0, 1) := by decide +kernel
theorem dX3_clear_1 : decode cX3_clear 1 = .ok (.iconst 0, 1) := by decide +kernel
theorem dX3_clear_2 : decode cX3_clear 2 = .ok (.putfield 24, 3) := by decide +kernel
theorem dX3_clear_5 : decode cX3_clear 5 = .ok (.aload_n 0, 1) := by decide +kernel
theorem dX3_clear_6 : decode cX3_clear 6 = .ok (.iconst 0, 1) := by decide +kernel
theorem dX3_clear_7 : decode cX3_clear 7 = .ok (.putfield 28, 3) := by decide +kernel
theorem dX3_clear_10 : decode cX3_clear 10 = .ok (.aload_n 0, 1) := by decide +kernel
theorem dX3_clear_11 : decode cX3_clear 11 = .ok (.iconst 0, 1) := by decide +kernel
theorem dX3_clear_12 : decode cX3_clear 12 = .ok (.putfield 32, 3) := by decide +kernel
theorem dX3_clear_15 : decode cX3_clear 15 = .ok (.return_, 1) := by decide +kernel
noncomputable def fX3_clear (rf : Nat → Nat → Nat) (a0 : Nat) (μ0 : o_Mem) : Option (Unit × o_Mem) :=
  o_seq (o_wI μ0 a0 0 0) fun μ1 =>
  o_seq (o_wI μ1 a0 1 0) fun μ2 =>
  o_seq (o_wI μ2 a0 2 0) fun μ3 =>
  some ((), μ3)
set_option maxRecDepth 20000 in
theorem dnX3_clear {X : o_Cx} (hX : o_ok X) {d : Nat} {a0 : Nat} {μ0 : o_Mem} {q : Unit → o_Mem → Prop} (h0 : o_is X a0 (.inl 3)) (h : o_Post (fX3_clear (o_rf X) a0 μ0) q) : o_Ev X (d + 0) mX3_clear 0 [some (.ref (o_ad X a0))] [] μ0 (o_QU q) := by
  unfold fX3_clear at h
  refine s_aload_n (i := 0) dX3_clear_0 rfl rfl ?_
  refine s_iconst dX3_clear_1 kI_0 ?_
  refine s_putZ hX h0 fwX3_24 rfl (Or.inl rfl) dX3_clear_2 (o_gen h (fun μ1 h => ?_))
  refine s_aload_n (i := 0) dX3_clear_5 rfl rfl ?_
  refine s_iconst dX3_clear_6 kI_0 ?_
  refine s_putI hX h0 fwX3_28 rfl dX3_clear_7 (o_gen h (fun μ2 h => ?_))
  refine s_aload_n (i := 0) dX3_clear_10 rfl rfl ?_
  refine s_iconst dX3_clear_11 kI_0 ?_
  refine s_putI hX h0 fwX3_32 rfl dX3_clear_12 (o_gen h (fun μ3 h => ?_))
  exact s_return rfl dX3_clear_15 ⟨rfl, o_ret h⟩
theorem dX3_add_0 : decode cX3_add 0 = .ok (.aload_n 0, 1) := by decide +kernel
theorem dX3_add_1 : decode cX3_add 1 = .ok (.getfield 32, 3) := by decide +kernel
theorem dX3_add_4 : decode cX3_add 4 = .ok (.bipush 60, 2) := by decide +kernel
theorem dX3_add_6 : decode cX3_add 6 = .ok (.if_icmp .lt 4, 3) := by decide +kernel
theorem dX3_add_9 : decode cX3_add 9 = .ok (.return_, 1) := by decide +kernel
theorem dX3_add_10 : decode cX3_add 10 = .ok (.aload_n 0, 1) := by decide +kernel
theorem dX3_add_11 : decode cX3_add 11 = .ok (.getfield 9, 3) := by decide +kernel
theorem dX3_add_14 : decode cX3_add 14 = .ok (.aload_n 0, 1) := by decide +kernel
theorem dX3_add_15 : decode cX3_add 15 = .ok (.getfield 32, 3) := by decide +kernel
theorem dX3_add_18 : decode cX3_add 18 = .ok (.iload_n 1, 1) := by decide +kernel
theorem dX3_add_19 : decode cX3_add 19 = .ok (.iastore, 1) := by decide +kernel
theorem dX3_add_20 : decode cX3_add 20 = .ok (.aload_n 0, 1) := by decide +kernel
theorem dX3_add_21 : decode cX3_add 21 = .ok (.getfield 15, 3) := by decide +kernel
theorem dX3_add_24 : decode cX3_add 24 = .ok (.aload_n 0, 1) := by decide +kernel
theorem dX3_add_25 : decode cX3_add 25 = .ok (.getfield 32, 3) := by decide +kernel
theorem dX3_add_28 : decode cX3_add 28 = .ok (.iload_n 2, 1) := by decide +kernel
theorem dX3_add_29 : decode cX3_add 29 = .ok (.iastore, 1) := by decide +kernel
theorem dX3_add_30 : decode cX3_add 30 = .ok (.aload_n 0, 1) := by decide +kernel
theorem dX3_add_31 : decode cX3_add 31 = .ok (.getfield 18, 3) := by decide +kernel
theorem dX3_add_34 : decode cX3_add 34 = .ok (.aload_n 0, 1) := by decide +kernel
theorem dX3_add_35 : decode cX3_add 35 = .ok (.getfield 32, 3) := by decide +kernel
theorem dX3_add_38 : decode cX3_add 38 = .ok (.iload_n 3, 1) := by decide +kernel
theorem dX3_add_39 : decode cX3_add 39 = .ok (.iastore, 1) := by decide +kernel
theorem dX3_add_40 : decode cX3_add 40 = .ok (.aload_n 0, 1) := by decide +kernel
theorem dX3_add_41 : decode cX3_add 41 = .ok (.getfield 21, 3) := by decide +kernel
theorem dX3_add_44 : decode cX3_add 44 = .ok (.aload_n 0, 1) := by decide +kernel
theorem dX3_add_45 : decode cX3_add 45 = .ok (.getfield 32, 3) := by decide +kernel
theorem dX3_add_48 : decode cX3_add 48 = .ok (.iload 4, 2) := by decide +kernel
theorem dX3_add_50 : decode cX3_add 50 = .ok (.iastore, 1) := by decide +kernel
theorem dX3_add_51 : decode cX3_add 51 = .ok (.aload_n 0, 1) := by decide +kernel
theorem dX3_add_52 : decode cX3_add 52 = .ok (.dup, 1) := by decide +kernel
theorem dX3_add_53 : decode cX3_add 53 = .ok (.getfield 32, 3) := by decide +kernel
theorem dX3_add_56 : decode cX3_add 56 = .ok (.iconst 1, 1) := by decide +kernel
theorem dX3_add_57 : decode cX3_add 57 = .ok (.iadd, 1) := by decide +kernel
theorem dX3_add_58 : decode cX3_add 58 = .ok (.putfield 32, 3) := by decide +kernel
theorem dX3_add_61 : decode cX3_add 61 = .ok (.return_, 1) := by decide +kernel
noncomputable def fX3_add (rf : Nat → Nat → Nat) (a0 : Nat) (x1 : Int32) (x2 : Int32) (x3 : Int32) (x4 : Int32) (μ0 : o_Mem) : Option (Unit × o_Mem) :=
  if (μ0.1 a0 2) < 60 then (
    o_ck (0 ≤ ((μ0.1 a0 2)).toInt ∧ ((μ0.1 a0 2)).toInt < 60) <|
    o_seq (o_wI μ0 (rf a0 3) (((μ0.1 a0 2)).toNatClampNeg) x1) fun μ1 =>
    o_ck (0 ≤ ((μ1.1 a0 2)).toInt ∧ ((μ1.1 a0 2)).toInt < 60) <|
    o_seq (o_wI μ1 (rf a0 4) (((μ1.1 a0 2)).toNatClampNeg) x2) fun μ2 =>
    o_ck (0 ≤ ((μ2.1 a0 2)).toInt ∧ ((μ2.1 a0 2)).toInt < 60) <|
    o_seq (o_wI μ2 (rf a0 5) (((μ2.1 a0 2)).toNatClampNeg) x3) fun μ3 =>
    o_ck (0 ≤ ((μ3.1 a0 2)).toInt ∧ ((μ3.1 a0 2)).toInt < 60) <|
    o_seq (o_wI μ3 (rf a0 6) (((μ3.1 a0 2)).toNatClampNeg) x4) fun μ4 =>
    o_seq (o_wI μ4 a0 2 ((μ4.1 a0 2) + 1)) fun μ5 =>
    some ((), μ5))
  else (
    some ((), μ0))
set_option maxRecDepth 20000 in
theorem dnX3_add {X : o_Cx} (hX : o_ok X) {d : Nat} {a0 : Nat} {x1 : Int32} {x2 : Int32} {x3 : Int32} {x4 : Int32} {μ0 : o_Mem} {q : Unit → o_Mem → Prop} (h0 : o_is X a0 (.inl 3)) (h : o_Post (fX3_add (o_rf X) a0 x1 x2 x3 x4 μ0) q) : o_Ev X (d + 0) mX3_add 0 [some (.ref (o_ad X a0)), some (.int x1), some (.int x2), some (.int x3), some (.int x4)] [] μ0 (o_QU q) := by
  unfold fX3_add at h
  refine s_aload_n (i := 0) dX3_add_0 rfl rfl ?_
  refine s_getI h0 flX3_32 rfl dX3_add_1 ?_
  refine s_bipush dX3_add_4 kB_60 ?_
  refine s_icmp_lt (tgt := 10) dX3_add_6 rfl (fun c1 => ?_) (fun c1 => ?_)
  · have h := o_if_t c1 h
    refine s_aload_n (i := 0) dX3_add_10 rfl rfl ?_
    refine s_getR hX h0 flX3_9 rfl dX3_add_11 (fun (g1 : o_is X (o_rf X a0 3) (.inr (0, 60))) => ?_)
    refine s_aload_n (i := 0) dX3_add_14 rfl rfl ?_
    refine s_getI h0 flX3_32 rfl dX3_add_15 ?_
    refine s_iload_n (i := 1) dX3_add_18 rfl rfl ?_
    have hc := o_ck_c h
    have h := o_ck_k h
    refine s_iastK hX g1 hc rfl dX3_add_19 (o_gen h (fun μ1 h => ?_))
    refine s_aload_n (i := 0) dX3_add_20 rfl rfl ?_
    refine s_getR hX h0 flX3_15 rfl dX3_add_21 (fun (g2 : o_is X (o_rf X a0 4) (.inr (0, 60))) => ?_)
    refine s_aload_n (i := 0) dX3_add_24 rfl rfl ?_
    refine s_getI h0 flX3_32 rfl dX3_add_25 ?_
    refine s_iload_n (i := 2) dX3_add_28 rfl rfl ?_
    have hc := o_ck_c h
    have h := o_ck_k h
    refine s_iastK hX g2 hc rfl dX3_add_29 (o_gen h (fun μ2 h => ?_))
    refine s_aload_n (i := 0) dX3_add_30 rfl rfl ?_
    refine s_getR hX h0 flX3_18 rfl dX3_add_31 (fun (g3 : o_is X (o_rf X a0 5) (.inr (0, 60))) => ?_)
    refine s_aload_n (i := 0) dX3_add_34 rfl rfl ?_
    refine s_getI h0 flX3_32 rfl dX3_add_35 ?_
    refine s_iload_n (i := 3) dX3_add_38 rfl rfl ?_
    have hc := o_ck_c h
    have h := o_ck_k h
    refine s_iastK hX g3 hc rfl dX3_add_39 (o_gen h (fun μ3 h => ?_))
    refine s_aload_n (i := 0) dX3_add_40 rfl rfl ?_
    refine s_getR hX h0 flX3_21 rfl dX3_add_41 (fun (g4 : o_is X (o_rf X a0 6) (.inr (0, 60))) => ?_)
    refine s_aload_n (i := 0) dX3_add_44 rfl rfl ?_
    refine s_getI h0 flX3_32 rfl dX3_add_45 ?_
    refine s_iload dX3_add_48 rfl ?_
    have hc := o_ck_c h
    have h := o_ck_k h
    refine s_iastK hX g4 hc rfl dX3_add_50 (o_gen h (fun μ4 h => ?_))
    refine s_aload_n (i := 0) dX3_add_51 rfl rfl ?_
    refine s_dup dX3_add_52 rfl ?_
    refine s_getI h0 flX3_32 rfl dX3_add_53 ?_
    refine s_iconst dX3_add_56 kI_1 ?_
    refine s_iadd dX3_add_57 ?_
    refine s_putI hX h0 fwX3_32 rfl dX3_add_58 (o_gen h (fun μ5 h => ?_))
    exact s_return rfl dX3_add_61 ⟨rfl, o_ret h⟩
  · have h := o_if_f c1 h
    exact s_return rfl dX3_add_9 ⟨rfl, o_ret h⟩
theorem dX3_copyFrom_0 : decode cX3_copyFrom 0 = .ok (.aload_n 0, 1) := by decide +kernel
theorem dX3_copyFrom_1 : decode cX3_copyFrom 1 = .ok (.aload_n 1, 1) := by decide +kernel
theorem dX3_copyFrom_2 : decode cX3_copyFrom 2 = .ok (.getfield 24, 3) := by decide +kernel
theorem dX3_copyFrom_5 : decode cX3_copyFrom 5 = .ok (.putfield 24, 3) := by decide +kernel
theorem dX3_copyFrom_8 : decode cX3_copyFrom 8 = .ok (.aload_n 0, 1) := by decide +kernel
theorem dX3_copyFrom_9 : decode cX3_copyFrom 9 = .ok (.aload_n 1, 1) := by decide +kernel
theorem dX3_copyFrom_10 : decode cX3_copyFrom 10 = .ok (.getfield 28, 3) := by decide +kernel
theorem dX3_copyFrom_13 : decode cX3_copyFrom 13 = .ok (.putfield 28, 3) := by decide +kernel
theorem dX3_copyFrom_16 : decode cX3_copyFrom 16 = .ok (.aload_n 0, 1) := by decide +kernel
theorem dX3_copyFrom_17 : decode cX3_copyFrom 17 = .ok (.aload_n 1, 1) := by decide +kernel
theorem dX3_copyFrom_18 : decode cX3_copyFrom 18 = .ok (.getfield 32, 3) := by decide +kernel
theorem dX3_copyFrom_21 : decode cX3_copyFrom 21 = .ok (.putfield 32, 3) := by decide +kernel
theorem dX3_copyFrom_24 : decode cX3_copyFrom 24 = .ok (.aload_n 1, 1) := by decide +kernel
theorem dX3_copyFrom_25 : decode cX3_copyFrom 25 = .ok (.getfield 9, 3) := by decide +kernel
theorem dX3_copyFrom_28 : decode cX3_copyFrom 28 = .ok (.iconst 0, 1) := by decide +kernel
theorem dX3_copyFrom_29 : decode cX3_copyFrom 29 = .ok (.aload_n 0, 1) := by decide +kernel
theorem dX3_copyFrom_30 : decode cX3_copyFrom 30 = .ok (.getfield 9, 3) := by decide +kernel
theorem dX3_copyFrom_33 : decode cX3_copyFrom 33 = .ok (.iconst 0, 1) := by decide +kernel
theorem dX3_copyFrom_34 : decode cX3_copyFrom 34 = .ok (.bipush 60, 2) := by decide +kernel
theorem dX3_copyFrom_36 : decode cX3_copyFrom 36 = .ok (.invokestatic 35, 3) := by decide +kernel
theorem dX3_copyFrom_39 : decode cX3_copyFrom 39 = .ok (.aload_n 1, 1) := by decide +kernel
theorem dX3_copyFrom_40 : decode cX3_copyFrom 40 = .ok (.getfield 15, 3) := by decide +kernel
theorem dX3_copyFrom_43 : decode cX3_copyFrom 43 = .ok (.iconst 0, 1) := by decide +kernel
theorem dX3_copyFrom_44 : decode cX3_copyFrom 44 = .ok (.aload_n 0, 1) := by decide +kernel
theorem dX3_copyFrom_45 : decode cX3_copyFrom 45 = .ok (.getfield 15, 3) := by decide +kernel
theorem dX3_copyFrom_48 : decode cX3_copyFrom 48 = .ok (.iconst 0, 1) := by decide +kernel
theorem dX3_copyFrom_49 : decode cX3_copyFrom 49 = .ok (.bipush 60, 2) := by decide +kernel
theorem dX3_copyFrom_51 : decode cX3_copyFrom 51 = .ok (.invokestatic 35, 3) := by decide +kernel
theorem dX3_copyFrom_54 : decode cX3_copyFrom 54 = .ok (.aload_n 1, 1) := by decide +kernel
theorem dX3_copyFrom_55 : decode cX3_copyFrom 55 = .ok (.getfield 18, 3) := by decide +kernel
theorem dX3_copyFrom_58 : decode cX3_copyFrom 58 = .ok (.iconst 0, 1) := by decide +kernel
theorem dX3_copyFrom_59 : decode cX3_copyFrom 59 = .ok (.aload_n 0, 1) := by decide +kernel
theorem dX3_copyFrom_60 : decode cX3_copyFrom 60 = .ok (.getfield 18, 3) := by decide +kernel
theorem dX3_copyFrom_63 : decode cX3_copyFrom 63 = .ok (.iconst 0, 1) := by decide +kernel
theorem dX3_copyFrom_64 : decode cX3_copyFrom 64 = .ok (.bipush 60, 2) := by decide +kernel
theorem dX3_copyFrom_66 : decode cX3_copyFrom 66 = .ok (.invokestatic 35, 3) := by decide +kernel
theorem dX3_copyFrom_69 : decode cX3_copyFrom 69 = .ok (.aload_n 1, 1) := by decide +kernel
theorem dX3_copyFrom_70 : decode cX3_copyFrom 70 = .ok (.getfield 21, 3) := by decide +kernel
theorem dX3_copyFrom_73 : decode cX3_copyFrom 73 = .ok (.iconst 0, 1) := by decide +kernel
theorem dX3_copyFrom_74 : decode cX3_copyFrom 74 = .ok (.aload_n 0, 1) := by decide +kernel
theorem dX3_copyFrom_75 : decode cX3_copyFrom 75 = .ok (.getfield 21, 3) := by decide +kernel
theorem dX3_copyFrom_78 : decode cX3_copyFrom 78 = .ok (.iconst 0, 1) := by decide +kernel
theorem dX3_copyFrom_79 : decode cX3_copyFrom 79 = .ok (.bipush 60, 2) := by decide +kernel
theorem dX3_copyFrom_81 : decode cX3_copyFrom 81 = .ok (.invokestatic 35, 3) := by decide +kernel
theorem dX3_copyFrom_84 : decode cX3_copyFrom 84 = .ok (.return_, 1) := by decide +kernel
noncomputable def fX3_copyFrom (rf : Nat → Nat → Nat) (a0 : Nat) (a1 : Nat) (μ0 : o_Mem) : Option (Unit × o_Mem) :=
  o_ck ((μ0.1 a1 0) = 0 ∨ (μ0.1 a1 0) = 1) <|
  o_seq (o_wI μ0 a0 0 (μ0.1 a1 0)) fun μ1 =>
  o_seq (o_wI μ1 a0 1 (μ1.1 a1 1)) fun μ2 =>
  o_seq (o_wI μ2 a0 2 (μ2.1 a1 2)) fun μ3 =>
  o_seq (o_sI μ3 (rf a0 3) (va_cpy (μ3.1 (rf a1 3)) (μ3.1 (rf a0 3)) 0 0 60)) fun μ4 =>
  o_seq (o_sI μ4 (rf a0 4) (va_cpy (μ4.1 (rf a1 4)) (μ4.1 (rf a0 4)) 0 0 60)) fun μ5 =>
  o_seq (o_sI μ5 (rf a0 5) (va_cpy (μ5.1 (rf a1 5)) (μ5.1 (rf a0 5)) 0 0 60)) fun μ6 =>
  o_seq (o_sI μ6 (rf a0 6) (va_cpy (μ6.1 (rf a1 6)) (μ6.1 (rf a0 6)) 0 0 60)) fun μ7 =>
  some ((), μ7)
set_option maxRecDepth 20000 in
theorem dnX3_copyFrom {X : o_Cx} (hX : o_ok X) {d : Nat} {a0 : Nat} {a1 : Nat} {μ0 : o_Mem} {q : Unit → o_Mem → Prop} (h0 : o_is X a0 (.inl 3)) (h1 : o_is X a1 (.inl 3)) (h : o_Post (fX3_copyFrom (o_rf X) a0 a1 μ0) q) : o_Ev X (d + 1) mX3_copyFrom 0 [some (.ref (o_ad X a0)), some (.ref (o_ad X a1))] [] μ0 (o_QU q) := by
  unfold fX3_copyFrom at h
  refine s_aload_n (i := 0) dX3_copyFrom_0 rfl rfl ?_
  refine s_aload_n (i := 1) dX3_copyFrom_1 rfl rfl ?_
  refine s_getI h1 flX3_24 rfl dX3_copyFrom_2 ?_
  have hz := o_ck_c h
  have h := o_ck_k h
  refine s_putZ hX h0 fwX3_24 rfl hz dX3_copyFrom_5 (o_gen h (fun μ1 h => ?_))
  refine s_aload_n (i := 0) dX3_copyFrom_8 rfl rfl ?_
  refine s_aload_n (i := 1) dX3_copyFrom_9 rfl rfl ?_
  refine s_getI h1 flX3_28 rfl dX3_copyFrom_10 ?_
  refine s_putI hX h0 fwX3_28 rfl dX3_copyFrom_13 (o_gen h (fun μ2 h => ?_))
  refine s_aload_n (i := 0) dX3_copyFrom_16 rfl rfl ?_
  refine s_aload_n (i := 1) dX3_copyFrom_17 rfl rfl ?_
  refine s_getI h1 flX3_32 rfl dX3_copyFrom_18 ?_
  refine s_putI hX h0 fwX3_32 rfl dX3_copyFrom_21 (o_gen h (fun μ3 h => ?_))
  refine s_aload_n (i := 1) dX3_copyFrom_24 rfl rfl ?_
  refine s_getR hX h1 flX3_9 rfl dX3_copyFrom_25 (fun (g1 : o_is X (o_rf X a1 3) (.inr (0, 60))) => ?_)
  refine s_iconst dX3_copyFrom_28 kI_0 ?_
  refine s_aload_n (i := 0) dX3_copyFrom_29 rfl rfl ?_
  refine s_getR hX h0 flX3_9 rfl dX3_copyFrom_30 (fun (g2 : o_is X (o_rf X a0 3) (.inr (0, 60))) => ?_)
  refine s_iconst dX3_copyFrom_33 kI_0 ?_
  refine s_bipush dX3_copyFrom_34 kB_60 ?_
  refine s_copyIK hX g1 g2 mlX3_35 acn acs aci (by decide) (by decide) (by decide) (Nat.le_of_ble_eq_true rfl) (Nat.le_of_ble_eq_true rfl) kN_0 kN_0 kN_60 (Nat.le_of_ble_eq_true rfl) dX3_copyFrom_36 (o_gen h (fun μ4 h => ?_))
  refine s_aload_n (i := 1) dX3_copyFrom_39 rfl rfl ?_
  refine s_getR hX h1 flX3_15 rfl dX3_copyFrom_40 (fun (g3 : o_is X (o_rf X a1 4) (.inr (0, 60))) => ?_)
  refine s_iconst dX3_copyFrom_43 kI_0 ?_
  refine s_aload_n (i := 0) dX3_copyFrom_44 rfl rfl ?_
  refine s_getR hX h0 flX3_15 rfl dX3_copyFrom_45 (fun (g4 : o_is X (o_rf X a0 4) (.inr (0, 60))) => ?_)
  refine s_iconst dX3_copyFrom_48 kI_0 ?_
  refine s_bipush dX3_copyFrom_49 kB_60 ?_
  refine s_copyIK hX g3 g4 mlX3_35 acn acs aci (by decide) (by decide) (by decide) (Nat.le_of_ble_eq_true rfl) (Nat.le_of_ble_eq_true rfl) kN_0 kN_0 kN_60 (Nat.le_of_ble_eq_true rfl) dX3_copyFrom_51 (o_gen h (fun μ5 h => ?_))
  refine s_aload_n (i := 1) dX3_copyFrom_54 rfl rfl ?_
  refine s_getR hX h1 flX3_18 rfl dX3_copyFrom_55 (fun (g5 : o_is X (o_rf X a1 5) (.inr (0, 60))) => ?_)
  refine s_iconst dX3_copyFrom_58 kI_0 ?_
  refine s_aload_n (i := 0) dX3_copyFrom_59 rfl rfl ?_
  refine s_getR hX h0 flX3_18 rfl dX3_copyFrom_60 (fun (g6 : o_is X (o_rf X a0 5) (.inr (0, 60))) => ?_)
  refine s_iconst dX3_copyFrom_63 kI_0 ?_
  refine s_bipush dX3_copyFrom_64 kB_60 ?_
  refine s_copyIK hX g5 g6 mlX3_35 acn acs aci (by decide) (by decide) (by decide) (Nat.le_of_ble_eq_true rfl) (Nat.le_of_ble_eq_true rfl) kN_0 kN_0 kN_60 (Nat.le_of_ble_eq_true rfl) dX3_copyFrom_66 (o_gen h (fun μ6 h => ?_))
  refine s_aload_n (i := 1) dX3_copyFrom_69 rfl rfl ?_
  refine s_getR hX h1 flX3_21 rfl dX3_copyFrom_70 (fun (g7 : o_is X (o_rf X a1 6) (.inr (0, 60))) => ?_)
  refine s_iconst dX3_copyFrom_73 kI_0 ?_
  refine s_aload_n (i := 0) dX3_copyFrom_74 rfl rfl ?_
  refine s_getR hX h0 flX3_21 rfl dX3_copyFrom_75 (fun (g8 : o_is X (o_rf X a0 6) (.inr (0, 60))) => ?_)
  refine s_iconst dX3_copyFrom_78 kI_0 ?_
  refine s_bipush dX3_copyFrom_79 kB_60 ?_
  refine s_copyIK hX g7 g8 mlX3_35 acn acs aci (by decide) (by decide) (by decide) (Nat.le_of_ble_eq_true rfl) (Nat.le_of_ble_eq_true rfl) kN_0 kN_0 kN_60 (Nat.le_of_ble_eq_true rfl) dX3_copyFrom_81 (o_gen h (fun μ7 h => ?_))
  exact s_return rfl dX3_copyFrom_84 ⟨rfl, o_ret h⟩
