theorem dX1_isFull_0 : decode cX1_isFull 0 = .ok (.aload_n 0, 1) := by decide +kernel
theorem dX1_isFull_1 : decode cX1_isFull 1 = .ok (.getfield 27, 3) := by decide +kernel
theorem dX1_isFull_4 : decode cX1_isFull 4 = .ok (.bipush 12, 2) := by decide +kernel
theorem dX1_isFull_6 : decode cX1_isFull 6 = .ok (.if_icmp .lt 7, 3) := by decide +kernel
theorem dX1_isFull_9 : decode cX1_isFull 9 = .ok (.iconst 1, 1) := by decide +kernel
theorem dX1_isFull_10 : decode cX1_isFull 10 = .ok (.goto 4, 3) := by decide +kernel
theorem dX1_isFull_13 : decode cX1_isFull 13 = .ok (.iconst 0, 1) := by decide +kernel
theorem dX1_isFull_14 : decode cX1_isFull 14 = .ok (.ireturn, 1) := by decide +kernel
noncomputable def fX1_isFull (rf : Nat → Nat → Nat) (a0 : Nat) (μ0 : o_Mem) : Option (Int32 × o_Mem) :=
  if (μ0.1 a0 0) < 12 then (
    some (0, μ0))
  else (
    some (1, μ0))
set_option maxRecDepth 20000 in
theorem dnX1_isFull {X : o_Cx} (hX : o_ok X) {d : Nat} {a0 : Nat} {μ0 : o_Mem} {q : Int32 → o_Mem → Prop} (h0 : o_is X a0 (.inl 1)) (h : o_Post (fX1_isFull (o_rf X) a0 μ0) q) : o_Ev X (d + 0) mX1_isFull 0 [some (.ref (o_ad X a0))] [] μ0 (o_QZ q) := by
  unfold fX1_isFull at h
  refine s_aload_n (i := 0) dX1_isFull_0 rfl rfl ?_
  refine s_getI h0 flX1_27 rfl dX1_isFull_1 ?_
  refine s_bipush dX1_isFull_4 kB_12 ?_
  refine s_icmp_lt (tgt := 13) dX1_isFull_6 rfl (fun c1 => ?_) (fun c1 => ?_)
  · have h := o_if_t c1 h
    refine s_iconst dX1_isFull_13 kI_0 ?_
    exact s_zreturn rfl (Or.inl rfl) dX1_isFull_14 ⟨_, rfl, (Or.inl rfl), o_ret h⟩
  · have h := o_if_f c1 h
    refine s_iconst dX1_isFull_9 kI_1 ?_
    refine s_goto (tgt := 14) dX1_isFull_10 rfl ?_
    exact s_zreturn rfl (Or.inr rfl) dX1_isFull_14 ⟨_, rfl, (Or.inr rfl), o_ret h⟩
theorem dX1_add_0 : decode cX1_add 0 = .ok (.aload_n 0, 1) := by decide +kernel
theorem dX1_add_1 : decode cX1_add 1 = .ok (.getfield 27, 3) := by decide +kernel
theorem dX1_add_4 : decode cX1_add 4 = .ok (.bipush 12, 2) := by decide +kernel
theorem dX1_add_6 : decode cX1_add 6 = .ok (.if_icmp .lt 4, 3) := by decide +kernel
theorem dX1_add_9 : decode cX1_add 9 = .ok (.return_, 1) := by decide +kernel
theorem dX1_add_10 : decode cX1_add 10 = .ok (.aload_n 0, 1) := by decide +kernel
theorem dX1_add_11 : decode cX1_add 11 = .ok (.getfield 9, 3) := by decide +kernel
theorem dX1_add_14 : decode cX1_add 14 = .ok (.aload_n 0, 1) := by decide +kernel
theorem dX1_add_15 : decode cX1_add 15 = .ok (.getfield 27, 3) := by decide +kernel
theorem dX1_add_18 : decode cX1_add 18 = .ok (.iload_n 1, 1) := by decide +kernel
theorem dX1_add_19 : decode cX1_add 19 = .ok (.iastore, 1) := by decide +kernel
theorem dX1_add_20 : decode cX1_add 20 = .ok (.aload_n 0, 1) := by decide +kernel
theorem dX1_add_21 : decode cX1_add 21 = .ok (.getfield 15, 3) := by decide +kernel
theorem dX1_add_24 : decode cX1_add 24 = .ok (.aload_n 0, 1) := by decide +kernel
theorem dX1_add_25 : decode cX1_add 25 = .ok (.getfield 27, 3) := by decide +kernel
theorem dX1_add_28 : decode cX1_add 28 = .ok (.iload_n 2, 1) := by decide +kernel
theorem dX1_add_29 : decode cX1_add 29 = .ok (.iastore, 1) := by decide +kernel
theorem dX1_add_30 : decode cX1_add 30 = .ok (.aload_n 0, 1) := by decide +kernel
theorem dX1_add_31 : decode cX1_add 31 = .ok (.getfield 18, 3) := by decide +kernel
theorem dX1_add_34 : decode cX1_add 34 = .ok (.aload_n 0, 1) := by decide +kernel
theorem dX1_add_35 : decode cX1_add 35 = .ok (.getfield 27, 3) := by decide +kernel
theorem dX1_add_38 : decode cX1_add 38 = .ok (.iload_n 3, 1) := by decide +kernel
theorem dX1_add_39 : decode cX1_add 39 = .ok (.iastore, 1) := by decide +kernel
theorem dX1_add_40 : decode cX1_add 40 = .ok (.aload_n 0, 1) := by decide +kernel
theorem dX1_add_41 : decode cX1_add 41 = .ok (.getfield 21, 3) := by decide +kernel
theorem dX1_add_44 : decode cX1_add 44 = .ok (.aload_n 0, 1) := by decide +kernel
theorem dX1_add_45 : decode cX1_add 45 = .ok (.getfield 27, 3) := by decide +kernel
theorem dX1_add_48 : decode cX1_add 48 = .ok (.iload 4, 2) := by decide +kernel
theorem dX1_add_50 : decode cX1_add 50 = .ok (.iastore, 1) := by decide +kernel
theorem dX1_add_51 : decode cX1_add 51 = .ok (.aload_n 0, 1) := by decide +kernel
theorem dX1_add_52 : decode cX1_add 52 = .ok (.getfield 24, 3) := by decide +kernel
theorem dX1_add_55 : decode cX1_add 55 = .ok (.aload_n 0, 1) := by decide +kernel
theorem dX1_add_56 : decode cX1_add 56 = .ok (.getfield 27, 3) := by decide +kernel
theorem dX1_add_59 : decode cX1_add 59 = .ok (.iload 5, 2) := by decide +kernel
theorem dX1_add_61 : decode cX1_add 61 = .ok (.iastore, 1) := by decide +kernel
theorem dX1_add_62 : decode cX1_add 62 = .ok (.aload_n 0, 1) := by decide +kernel
theorem dX1_add_63 : decode cX1_add 63 = .ok (.dup, 1) := by decide +kernel
theorem dX1_add_64 : decode cX1_add 64 = .ok (.getfield 27, 3) := by decide +kernel
theorem dX1_add_67 : decode cX1_add 67 = .ok (.iconst 1, 1) := by decide +kernel
theorem dX1_add_68 : decode cX1_add 68 = .ok (.iadd, 1) := by decide +kernel
theorem dX1_add_69 : decode cX1_add 69 = .ok (.putfield 27, 3) := by decide +kernel
theorem dX1_add_72 : decode cX1_add 72 = .ok (.return_, 1) := by decide +kernel
noncomputable def fX1_add (rf : Nat → Nat → Nat) (a0 : Nat) (x1 : Int32) (x2 : Int32) (x3 : Int32) (x4 : Int32) (x5 : Int32) (μ0 : o_Mem) : Option (Unit × o_Mem) :=
  if (μ0.1 a0 0) < 12 then (
    o_ck (0 ≤ ((μ0.1 a0 0)).toInt ∧ ((μ0.1 a0 0)).toInt < 12) <|
    o_seq (o_wI μ0 (rf a0 1) (((μ0.1 a0 0)).toNatClampNeg) x1) fun μ1 =>
    o_ck (0 ≤ ((μ1.1 a0 0)).toInt ∧ ((μ1.1 a0 0)).toInt < 12) <|
    o_seq (o_wI μ1 (rf a0 2) (((μ1.1 a0 0)).toNatClampNeg) x2) fun μ2 =>
    o_ck (0 ≤ ((μ2.1 a0 0)).toInt ∧ ((μ2.1 a0 0)).toInt < 12) <|
    o_seq (o_wI μ2 (rf a0 3) (((μ2.1 a0 0)).toNatClampNeg) x3) fun μ3 =>
    o_ck (0 ≤ ((μ3.1 a0 0)).toInt ∧ ((μ3.1 a0 0)).toInt < 12) <|
    o_seq (o_wI μ3 (rf a0 4) (((μ3.1 a0 0)).toNatClampNeg) x4) fun μ4 =>
    o_ck (0 ≤ ((μ4.1 a0 0)).toInt ∧ ((μ4.1 a0 0)).toInt < 12) <|
    o_seq (o_wI μ4 (rf a0 5) (((μ4.1 a0 0)).toNatClampNeg) x5) fun μ5 =>
    o_seq (o_wI μ5 a0 0 ((μ5.1 a0 0) + 1)) fun μ6 =>
    some ((), μ6))
  else (
    some ((), μ0))
set_option maxRecDepth 20000 in
theorem dnX1_add {X : o_Cx} (hX : o_ok X) {d : Nat} {a0 : Nat} {x1 : Int32} {x2 : Int32} {x3 : Int32} {x4 : Int32} {x5 : Int32} {μ0 : o_Mem} {q : Unit → o_Mem → Prop} (h0 : o_is X a0 (.inl 1)) (h : o_Post (fX1_add (o_rf X) a0 x1 x2 x3 x4 x5 μ0) q) : o_Ev X (d + 0) mX1_add 0 [some (.ref (o_ad X a0)), some (.int x1), some (.int x2), some (.int x3), some (.int x4), some (.int x5)] [] μ0 (o_QU q) := by
  unfold fX1_add at h
  refine s_aload_n (i := 0) dX1_add_0 rfl rfl ?_
  refine s_getI h0 flX1_27 rfl dX1_add_1 ?_
  refine s_bipush dX1_add_4 kB_12 ?_
  refine s_icmp_lt (tgt := 10) dX1_add_6 rfl (fun c1 => ?_) (fun c1 => ?_)
  · have h := o_if_t c1 h
    refine s_aload_n (i := 0) dX1_add_10 rfl rfl ?_
    refine s_getR hX h0 flX1_9 rfl dX1_add_11 (fun (g1 : o_is X (o_rf X a0 1) (.inr (0, 12))) => ?_)
    refine s_aload_n (i := 0) dX1_add_14 rfl rfl ?_
    refine s_getI h0 flX1_27 rfl dX1_add_15 ?_
    refine s_iload_n (i := 1) dX1_add_18 rfl rfl ?_
    have hc := o_ck_c h
    have h := o_ck_k h
    refine s_iastK hX g1 hc rfl dX1_add_19 (o_gen h (fun μ1 h => ?_))
    refine s_aload_n (i := 0) dX1_add_20 rfl rfl ?_
    refine s_getR hX h0 flX1_15 rfl dX1_add_21 (fun (g2 : o_is X (o_rf X a0 2) (.inr (0, 12))) => ?_)
    refine s_aload_n (i := 0) dX1_add_24 rfl rfl ?_
    refine s_getI h0 flX1_27 rfl dX1_add_25 ?_
    refine s_iload_n (i := 2) dX1_add_28 rfl rfl ?_
    have hc := o_ck_c h
    have h := o_ck_k h
    refine s_iastK hX g2 hc rfl dX1_add_29 (o_gen h (fun μ2 h => ?_))
    refine s_aload_n (i := 0) dX1_add_30 rfl rfl ?_
    refine s_getR hX h0 flX1_18 rfl dX1_add_31 (fun (g3 : o_is X (o_rf X a0 3) (.inr (0, 12))) => ?_)
    refine s_aload_n (i := 0) dX1_add_34 rfl rfl ?_
    refine s_getI h0 flX1_27 rfl dX1_add_35 ?_
    refine s_iload_n (i := 3) dX1_add_38 rfl rfl ?_
    have hc := o_ck_c h
    have h := o_ck_k h
    refine s_iastK hX g3 hc rfl dX1_add_39 (o_gen h (fun μ3 h => ?_))
    refine s_aload_n (i := 0) dX1_add_40 rfl rfl ?_
    refine s_getR hX h0 flX1_21 rfl dX1_add_41 (fun (g4 : o_is X (o_rf X a0 4) (.inr (0, 12))) => ?_)
    refine s_aload_n (i := 0) dX1_add_44 rfl rfl ?_
    refine s_getI h0 flX1_27 rfl dX1_add_45 ?_
    refine s_iload dX1_add_48 rfl ?_
    have hc := o_ck_c h
    have h := o_ck_k h
    refine s_iastK hX g4 hc rfl dX1_add_50 (o_gen h (fun μ4 h => ?_))
    refine s_aload_n (i := 0) dX1_add_51 rfl rfl ?_
    refine s_getR hX h0 flX1_24 rfl dX1_add_52 (fun (g5 : o_is X (o_rf X a0 5) (.inr (0, 12))) => ?_)
    refine s_aload_n (i := 0) dX1_add_55 rfl rfl ?_
    refine s_getI h0 flX1_27 rfl dX1_add_56 ?_
    refine s_iload dX1_add_59 rfl ?_
    have hc := o_ck_c h
    have h := o_ck_k h
    refine s_iastK hX g5 hc rfl dX1_add_61 (o_gen h (fun μ5 h => ?_))
    refine s_aload_n (i := 0) dX1_add_62 rfl rfl ?_
    refine s_dup dX1_add_63 rfl ?_
    refine s_getI h0 flX1_27 rfl dX1_add_64 ?_
    refine s_iconst dX1_add_67 kI_1 ?_
    refine s_iadd dX1_add_68 ?_
    refine s_putI hX h0 fwX1_27 rfl dX1_add_69 (o_gen h (fun μ6 h => ?_))
    exact s_return rfl dX1_add_72 ⟨rfl, o_ret h⟩
  · have h := o_if_f c1 h
    exact s_return rfl dX1_add_9 ⟨rfl, o_ret h⟩
theorem dX1_dropAt_0 : decode cX1_dropAt 0 = .ok (.iload_n 1, 1) := by decide +kernel
theorem dX1_dropAt_1 : decode cX1_dropAt 1 = .ok (.iconst 1, 1) := by decide +kernel
theorem dX1_dropAt_2 : decode cX1_dropAt 2 = .ok (.iadd, 1) := by decide +kernel
theorem dX1_dropAt_3 : decode cX1_dropAt 3 = .ok (.istore_n 2, 1) := by decide +kernel
theorem dX1_dropAt_4 : decode cX1_dropAt 4 = .ok (.iload_n 2, 1) := by decide +kernel
theorem dX1_dropAt_5 : decode cX1_dropAt 5 = .ok (.aload_n 0, 1) := by decide +kernel
theorem dX1_dropAt_6 : decode cX1_dropAt 6 = .ok (.getfield 27, 3) := by decide +kernel
theorem dX1_dropAt_9 : decode cX1_dropAt 9 = .ok (.if_icmp .ge 79, 3) := by decide +kernel
theorem dX1_dropAt_12 : decode cX1_dropAt 12 = .ok (.aload_n 0, 1) := by decide +kernel
theorem dX1_dropAt_13 : decode cX1_dropAt 13 = .ok (.getfield 9, 3) := by decide +kernel
theorem dX1_dropAt_16 : decode cX1_dropAt 16 = .ok (.iload_n 2, 1) := by decide +kernel
theorem dX1_dropAt_17 : decode cX1_dropAt 17 = .ok (.iconst 1, 1) := by decide +kernel
theorem dX1_dropAt_18 : decode cX1_dropAt 18 = .ok (.isub, 1) := by decide +kernel
theorem dX1_dropAt_19 : decode cX1_dropAt 19 = .ok (.aload_n 0, 1) := by decide +kernel
theorem dX1_dropAt_20 : decode cX1_dropAt 20 = .ok (.getfield 9, 3) := by decide +kernel
theorem dX1_dropAt_23 : decode cX1_dropAt 23 = .ok (.iload_n 2, 1) := by decide +kernel
theorem dX1_dropAt_24 : decode cX1_dropAt 24 = .ok (.iaload, 1) := by decide +kernel
theorem dX1_dropAt_25 : decode cX1_dropAt 25 = .ok (.iastore, 1) := by decide +kernel
theorem dX1_dropAt_26 : decode cX1_dropAt 26 = .ok (.aload_n 0, 1) := by decide +kernel
theorem dX1_dropAt_27 : decode cX1_dropAt 27 = .ok (.getfield 15, 3) := by decide +kernel
theorem dX1_dropAt_30 : decode cX1_dropAt 30 = .ok (.iload_n 2, 1) := by decide +kernel
theorem dX1_dropAt_31 : decode cX1_dropAt 31 = .ok (.iconst 1, 1) := by decide +kernel
theorem dX1_dropAt_32 : decode cX1_dropAt 32 = .ok (.isub, 1) := by decide +kernel
theorem dX1_dropAt_33 : decode cX1_dropAt 33 = .ok (.aload_n 0, 1) := by decide +kernel
theorem dX1_dropAt_34 : decode cX1_dropAt 34 = .ok (.getfield 15, 3) := by decide +kernel
theorem dX1_dropAt_37 : decode cX1_dropAt 37 = .ok (.iload_n 2, 1) := by decide +kernel
theorem dX1_dropAt_38 : decode cX1_dropAt 38 = .ok (.iaload, 1) := by decide +kernel
theorem dX1_dropAt_39 : decode cX1_dropAt 39 = .ok (.iastore, 1) := by decide +kernel
theorem dX1_dropAt_40 : decode cX1_dropAt 40 = .ok (.aload_n 0, 1) := by decide +kernel
theorem dX1_dropAt_41 : decode cX1_dropAt 41 = .ok (.getfield 18, 3) := by decide +kernel
theorem dX1_dropAt_44 : decode cX1_dropAt 44 = .ok (.iload_n 2, 1) := by decide +kernel
theorem dX1_dropAt_45 : decode cX1_dropAt 45 = .ok (.iconst 1, 1) := by decide +kernel
theorem dX1_dropAt_46 : decode cX1_dropAt 46 = .ok (.isub, 1) := by decide +kernel
theorem dX1_dropAt_47 : decode cX1_dropAt 47 = .ok (.aload_n 0, 1) := by decide +kernel
theorem dX1_dropAt_48 : decode cX1_dropAt 48 = .ok (.getfield 18, 3) := by decide +kernel
theorem dX1_dropAt_51 : decode cX1_dropAt 51 = .ok (.iload_n 2, 1) := by decide +kernel
theorem dX1_dropAt_52 : decode cX1_dropAt 52 = .ok (.iaload, 1) := by decide +kernel
theorem dX1_dropAt_53 : decode cX1_dropAt 53 = .ok (.iastore, 1) := by decide +kernel
theorem dX1_dropAt_54 : decode cX1_dropAt 54 = .ok (.aload_n 0, 1) := by decide +kernel
theorem dX1_dropAt_55 : decode cX1_dropAt 55 = .ok (.getfield 21, 3) := by decide +kernel
theorem dX1_dropAt_58 : decode cX1_dropAt 58 = .ok (.iload_n 2, 1) := by decide +kernel
theorem dX1_dropAt_59 : decode cX1_dropAt 59 = .ok (.iconst 1, 1) := by decide +kernel
theorem dX1_dropAt_60 : decode cX1_dropAt 60 = .ok (.isub, 1) := by decide +kernel
theorem dX1_dropAt_61 : decode cX1_dropAt 61 = .ok (.aload_n 0, 1) := by decide +kernel
theorem dX1_dropAt_62 : decode cX1_dropAt 62 = .ok (.getfield 21, 3) := by decide +kernel
theorem dX1_dropAt_65 : decode cX1_dropAt 65 = .ok (.iload_n 2, 1) := by decide +kernel
theorem dX1_dropAt_66 : decode cX1_dropAt 66 = .ok (.iaload, 1) := by decide +kernel
theorem dX1_dropAt_67 : decode cX1_dropAt 67 = .ok (.iastore, 1) := by decide +kernel
theorem dX1_dropAt_68 : decode cX1_dropAt 68 = .ok (.aload_n 0, 1) := by decide +kernel
theorem dX1_dropAt_69 : decode cX1_dropAt 69 = .ok (.getfield 24, 3) := by decide +kernel
theorem dX1_dropAt_72 : decode cX1_dropAt 72 = .ok (.iload_n 2, 1) := by decide +kernel
theorem dX1_dropAt_73 : decode cX1_dropAt 73 = .ok (.iconst 1, 1) := by decide +kernel
theorem dX1_dropAt_74 : decode cX1_dropAt 74 = .ok (.isub, 1) := by decide +kernel
theorem dX1_dropAt_75 : decode cX1_dropAt 75 = .ok (.aload_n 0, 1) := by decide +kernel
theorem dX1_dropAt_76 : decode cX1_dropAt 76 = .ok (.getfield 24, 3) := by decide +kernel
theorem dX1_dropAt_79 : decode cX1_dropAt 79 = .ok (.iload_n 2, 1) := by decide +kernel
theorem dX1_dropAt_80 : decode cX1_dropAt 80 = .ok (.iaload, 1) := by decide +kernel
theorem dX1_dropAt_81 : decode cX1_dropAt 81 = .ok (.iastore, 1) := by decide +kernel
theorem dX1_dropAt_82 : decode cX1_dropAt 82 = .ok (.iinc 2 1, 3) := by decide +kernel
theorem dX1_dropAt_85 : decode cX1_dropAt 85 = .ok (.goto (-81), 3) := by decide +kernel
theorem dX1_dropAt_88 : decode cX1_dropAt 88 = .ok (.aload_n 0, 1) := by decide +kernel
theorem dX1_dropAt_89 : decode cX1_dropAt 89 = .ok (.dup, 1) := by decide +kernel
theorem dX1_dropAt_90 : decode cX1_dropAt 90 = .ok (.getfield 27, 3) := by decide +kernel
theorem dX1_dropAt_93 : decode cX1_dropAt 93 = .ok (.iconst 1, 1) := by decide +kernel
theorem dX1_dropAt_94 : decode cX1_dropAt 94 = .ok (.isub, 1) := by decide +kernel
theorem dX1_dropAt_95 : decode cX1_dropAt 95 = .ok (.putfield 27, 3) := by decide +kernel
theorem dX1_dropAt_98 : decode cX1_dropAt 98 = .ok (.return_, 1) := by decide +kernel
noncomputable def fX1_dropAt_s4 (rf : Nat → Nat → Nat) (a0 : Nat) (τ4 : Int32) (μ0 : o_Mem) : Option ((Nat × (Int32)) × o_Mem) :=
  if (μ0.1 a0 0) ≤ τ4 then (
    some ((88, 0), μ0))
  else (
    o_ck (0 ≤ (τ4).toInt ∧ (τ4).toInt < 12) <|
    o_ck (0 ≤ ((τ4 - 1)).toInt ∧ ((τ4 - 1)).toInt < 12) <|
    o_seq (o_wI μ0 (rf a0 1) (((τ4 - 1)).toNatClampNeg) (μ0.1 (rf a0 1) τ4.toNatClampNeg)) fun μ1 =>
    o_ck (0 ≤ (τ4).toInt ∧ (τ4).toInt < 12) <|
    o_ck (0 ≤ ((τ4 - 1)).toInt ∧ ((τ4 - 1)).toInt < 12) <|
    o_seq (o_wI μ1 (rf a0 2) (((τ4 - 1)).toNatClampNeg) (μ1.1 (rf a0 2) τ4.toNatClampNeg)) fun μ2 =>
    o_ck (0 ≤ (τ4).toInt ∧ (τ4).toInt < 12) <|
    o_ck (0 ≤ ((τ4 - 1)).toInt ∧ ((τ4 - 1)).toInt < 12) <|
    o_seq (o_wI μ2 (rf a0 3) (((τ4 - 1)).toNatClampNeg) (μ2.1 (rf a0 3) τ4.toNatClampNeg)) fun μ3 =>
    o_ck (0 ≤ (τ4).toInt ∧ (τ4).toInt < 12) <|
    o_ck (0 ≤ ((τ4 - 1)).toInt ∧ ((τ4 - 1)).toInt < 12) <|
    o_seq (o_wI μ3 (rf a0 4) (((τ4 - 1)).toNatClampNeg) (μ3.1 (rf a0 4) τ4.toNatClampNeg)) fun μ4 =>
    o_ck (0 ≤ (τ4).toInt ∧ (τ4).toInt < 12) <|
    o_ck (0 ≤ ((τ4 - 1)).toInt ∧ ((τ4 - 1)).toInt < 12) <|
    o_seq (o_wI μ4 (rf a0 5) (((τ4 - 1)).toNatClampNeg) (μ4.1 (rf a0 5) τ4.toNatClampNeg)) fun μ5 =>
    some ((4, (τ4 + 1)), μ5))
noncomputable def fX1_dropAt (rf : Nat → Nat → Nat) (a0 : Nat) (x1 : Int32) (μ0 : o_Mem) : Option (Unit × o_Mem) :=
  o_bd (o_lp 4 (fX1_dropAt_s4 rf a0) o_fuel ((x1 + 1) : Int32) μ0) fun ex1 μ1 =>
  if ex1.1 = 88 then (
    o_seq (o_wI μ1 a0 0 ((μ1.1 a0 0) - 1)) fun μ2 =>
    some ((), μ2))
  else
    none
set_option maxRecDepth 20000 in
theorem dnX1_dropAt_s4 {X : o_Cx} (hX : o_ok X) {d : Nat} {a0 : Nat} {τ4 : Int32} {μ0 : o_Mem} {K : (Nat × (Int32)) → o_Mem → Prop} {Q : Option Value → o_Mem → Prop} (h0 : o_is X a0 (.inl 1)) (h : o_Post (fX1_dropAt_s4 (o_rf X) a0 τ4 μ0) K) (kh : ∀ (τ4 : Int32) (μ : o_Mem), K (4, τ4) μ → o_Ev X (d + 0) mX1_dropAt 4 [some (.ref (o_ad X a0)), none, some (.int τ4)] [] μ Q) (k88 : ∀ (τ4 : Int32) (μ : o_Mem), K (88, τ4) μ → o_Ev X (d + 0) mX1_dropAt 88 [some (.ref (o_ad X a0)), none, none] [] μ Q) : o_Ev X (d + 0) mX1_dropAt 4 [some (.ref (o_ad X a0)), none, some (.int τ4)] [] μ0 Q := by
  unfold fX1_dropAt_s4 at h
  refine s_iload_n (i := 2) dX1_dropAt_4 rfl rfl ?_
  refine s_aload_n (i := 0) dX1_dropAt_5 rfl rfl ?_
  refine s_getI h0 flX1_27 rfl dX1_dropAt_6 ?_
  refine s_icmp_ge (tgt := 88) dX1_dropAt_9 rfl (fun c1 => ?_) (fun c1 => ?_)
  · have h := o_if_t c1 h
    refine s_mask [true, false, false] (L' := [some (.ref (o_ad X a0)), none, none]) rfl ?_
    exact k88 0 _ (o_ret h)
  · have h := o_if_f c1 h
    refine s_aload_n (i := 0) dX1_dropAt_12 rfl rfl ?_
    refine s_getR hX h0 flX1_9 rfl dX1_dropAt_13 (fun (g1 : o_is X (o_rf X a0 1) (.inr (0, 12))) => ?_)
    refine s_iload_n (i := 2) dX1_dropAt_16 rfl rfl ?_
    refine s_iconst dX1_dropAt_17 kI_1 ?_
    refine s_isub dX1_dropAt_18 ?_
    refine s_aload_n (i := 0) dX1_dropAt_19 rfl rfl ?_
    refine s_getR hX h0 flX1_9 rfl dX1_dropAt_20 (fun (g2 : o_is X (o_rf X a0 1) (.inr (0, 12))) => ?_)
    refine s_iload_n (i := 2) dX1_dropAt_23 rfl rfl ?_
    have hc := o_ck_c h
    have h := o_ck_k h
    refine s_ialdK g2 hc rfl dX1_dropAt_24 ?_
    have hc := o_ck_c h
    have h := o_ck_k h
    refine s_iastK hX g1 hc rfl dX1_dropAt_25 (o_gen h (fun μ1 h => ?_))
    refine s_aload_n (i := 0) dX1_dropAt_26 rfl rfl ?_
    refine s_getR hX h0 flX1_15 rfl dX1_dropAt_27 (fun (g3 : o_is X (o_rf X a0 2) (.inr (0, 12))) => ?_)
    refine s_iload_n (i := 2) dX1_dropAt_30 rfl rfl ?_
    refine s_iconst dX1_dropAt_31 kI_1 ?_
    refine s_isub dX1_dropAt_32 ?_
    refine s_aload_n (i := 0) dX1_dropAt_33 rfl rfl ?_
    refine s_getR hX h0 flX1_15 rfl dX1_dropAt_34 (fun (g4 : o_is X (o_rf X a0 2) (.inr (0, 12))) => ?_)
    refine s_iload_n (i := 2) dX1_dropAt_37 rfl rfl ?_
    have hc := o_ck_c h
    have h := o_ck_k h
    refine s_ialdK g4 hc rfl dX1_dropAt_38 ?_
    have hc := o_ck_c h
    have h := o_ck_k h
    refine s_iastK hX g3 hc rfl dX1_dropAt_39 (o_gen h (fun μ2 h => ?_))
    refine s_aload_n (i := 0) dX1_dropAt_40 rfl rfl ?_
    refine s_getR hX h0 flX1_18 rfl dX1_dropAt_41 (fun (g5 : o_is X (o_rf X a0 3) (.inr (0, 12))) => ?_)
    refine s_iload_n (i := 2) dX1_dropAt_44 rfl rfl ?_
    refine s_iconst dX1_dropAt_45 kI_1 ?_
    refine s_isub dX1_dropAt_46 ?_
    refine s_aload_n (i := 0) dX1_dropAt_47 rfl rfl ?_
    refine s_getR hX h0 flX1_18 rfl dX1_dropAt_48 (fun (g6 : o_is X (o_rf X a0 3) (.inr (0, 12))) => ?_)
    refine s_iload_n (i := 2) dX1_dropAt_51 rfl rfl ?_
    have hc := o_ck_c h
    have h := o_ck_k h
    refine s_ialdK g6 hc rfl dX1_dropAt_52 ?_
    have hc := o_ck_c h
    have h := o_ck_k h
    refine s_iastK hX g5 hc rfl dX1_dropAt_53 (o_gen h (fun μ3 h => ?_))
    refine s_aload_n (i := 0) dX1_dropAt_54 rfl rfl ?_
    refine s_getR hX h0 flX1_21 rfl dX1_dropAt_55 (fun (g7 : o_is X (o_rf X a0 4) (.inr (0, 12))) => ?_)
    refine s_iload_n (i := 2) dX1_dropAt_58 rfl rfl ?_
    refine s_iconst dX1_dropAt_59 kI_1 ?_
    refine s_isub dX1_dropAt_60 ?_
    refine s_aload_n (i := 0) dX1_dropAt_61 rfl rfl ?_
    refine s_getR hX h0 flX1_21 rfl dX1_dropAt_62 (fun (g8 : o_is X (o_rf X a0 4) (.inr (0, 12))) => ?_)
    refine s_iload_n (i := 2) dX1_dropAt_65 rfl rfl ?_
    have hc := o_ck_c h
    have h := o_ck_k h
    refine s_ialdK g8 hc rfl dX1_dropAt_66 ?_
    have hc := o_ck_c h
    have h := o_ck_k h
    refine s_iastK hX g7 hc rfl dX1_dropAt_67 (o_gen h (fun μ4 h => ?_))
    refine s_aload_n (i := 0) dX1_dropAt_68 rfl rfl ?_
    refine s_getR hX h0 flX1_24 rfl dX1_dropAt_69 (fun (g9 : o_is X (o_rf X a0 5) (.inr (0, 12))) => ?_)
    refine s_iload_n (i := 2) dX1_dropAt_72 rfl rfl ?_
    refine s_iconst dX1_dropAt_73 kI_1 ?_
    refine s_isub dX1_dropAt_74 ?_
    refine s_aload_n (i := 0) dX1_dropAt_75 rfl rfl ?_
    refine s_getR hX h0 flX1_24 rfl dX1_dropAt_76 (fun (g10 : o_is X (o_rf X a0 5) (.inr (0, 12))) => ?_)
    refine s_iload_n (i := 2) dX1_dropAt_79 rfl rfl ?_
    have hc := o_ck_c h
    have h := o_ck_k h
    refine s_ialdK g10 hc rfl dX1_dropAt_80 ?_
    have hc := o_ck_c h
    have h := o_ck_k h
    refine s_iastK hX g9 hc rfl dX1_dropAt_81 (o_gen h (fun μ5 h => ?_))
    refine s_iinc (v := (τ4 + 1)) dX1_dropAt_82 rfl rfl (Nat.le_of_ble_eq_true rfl) rfl ?_
    refine s_goto (tgt := 4) dX1_dropAt_85 rfl ?_
    refine s_mask [true, false, true] (L' := [some (.ref (o_ad X a0)), none, some (.int (τ4 + 1))]) rfl ?_
    exact kh (τ4 + 1) _ (o_ret h)
set_option maxRecDepth 20000 in
theorem dnX1_dropAt {X : o_Cx} (hX : o_ok X) {d : Nat} {a0 : Nat} {x1 : Int32} {μ0 : o_Mem} {q : Unit → o_Mem → Prop} (h0 : o_is X a0 (.inl 1)) (h : o_Post (fX1_dropAt (o_rf X) a0 x1 μ0) q) : o_Ev X (d + 0) mX1_dropAt 0 [some (.ref (o_ad X a0)), some (.int x1), none] [] μ0 (o_QU q) := by
  unfold fX1_dropAt at h
  refine s_iload_n (i := 1) dX1_dropAt_0 rfl rfl ?_
  refine s_iconst dX1_dropAt_1 kI_1 ?_
  refine s_iadd dX1_dropAt_2 ?_
  refine s_istore_n (i := 2) dX1_dropAt_3 rfl (Nat.le_of_ble_eq_true rfl) rfl ?_
  refine s_mask [true, false, true] (L' := [some (.ref (o_ad X a0)), none, some (.int (x1 + 1))]) rfl ?_
  refine o_lp_ev (fun τ4 => [some (.ref (o_ad X a0)), none, some (.int τ4)]) (fun τ4 μ _K h kv ke4 => dnX1_dropAt_s4 hX h0 h kv (fun τ4 μ1 h => ?_)) o_fuel (x1 + 1) μ0 (o_bdp h)
  · have h := o_if_t rfl (ke4 (88, τ4) μ1 (o_ne rfl) h)
    refine s_aload_n (i := 0) dX1_dropAt_88 rfl rfl ?_
    refine s_dup dX1_dropAt_89 rfl ?_
    refine s_getI h0 flX1_27 rfl dX1_dropAt_90 ?_
    refine s_iconst dX1_dropAt_93 kI_1 ?_
    refine s_isub dX1_dropAt_94 ?_
    refine s_putI hX h0 fwX1_27 rfl dX1_dropAt_95 (o_gen h (fun μ2 h => ?_))
    exact s_return rfl dX1_dropAt_98 ⟨rfl, o_ret h⟩
theorem dX1_tell_0 : decode cX1_tell 0 = .ok (.iload_n 2, 1) := by decide +kernel
theorem dX1_tell_1 : decode cX1_tell 1 = .ok (.tableswitch 59 0 3 #[31, 38, 45, 52], 31) := by decide +kernel
theorem dX1_tell_32 : decode cX1_tell 32 = .ok (.aload_n 0, 1) := by decide +kernel
theorem dX1_tell_33 : decode cX1_tell 33 = .ok (.getfield 9, 3) := by decide +kernel
theorem dX1_tell_36 : decode cX1_tell 36 = .ok (.iload_n 1, 1) := by decide +kernel
theorem dX1_tell_37 : decode cX1_tell 37 = .ok (.iaload, 1) := by decide +kernel
theorem dX1_tell_38 : decode cX1_tell 38 = .ok (.ireturn, 1) := by decide +kernel
theorem dX1_tell_39 : decode cX1_tell 39 = .ok (.aload_n 0, 1) := by decide +kernel
theorem dX1_tell_40 : decode cX1_tell 40 = .ok (.getfield 15, 3) := by decide +kernel
theorem dX1_tell_43 : decode cX1_tell 43 = .ok (.iload_n 1, 1) := by decide +kernel
theorem dX1_tell_44 : decode cX1_tell 44 = .ok (.iaload, 1) := by decide +kernel
theorem dX1_tell_45 : decode cX1_tell 45 = .ok (.ireturn, 1) := by decide +kernel
theorem dX1_tell_46 : decode cX1_tell 46 = .ok (.aload_n 0, 1) := by decide +kernel
theorem dX1_tell_47 : decode cX1_tell 47 = .ok (.getfield 18, 3) := by decide +kernel
theorem dX1_tell_50 : decode cX1_tell 50 = .ok (.iload_n 1, 1) := by decide +kernel
theorem dX1_tell_51 : decode cX1_tell 51 = .ok (.iaload, 1) := by decide +kernel
theorem dX1_tell_52 : decode cX1_tell 52 = .ok (.ireturn, 1) := by decide +kernel
theorem dX1_tell_53 : decode cX1_tell 53 = .ok (.aload_n 0, 1) := by decide +kernel
theorem dX1_tell_54 : decode cX1_tell 54 = .ok (.getfield 21, 3) := by decide +kernel
theorem dX1_tell_57 : decode cX1_tell 57 = .ok (.iload_n 1, 1) := by decide +kernel
theorem dX1_tell_58 : decode cX1_tell 58 = .ok (.iaload, 1) := by decide +kernel
theorem dX1_tell_59 : decode cX1_tell 59 = .ok (.ireturn, 1) := by decide +kernel
theorem dX1_tell_60 : decode cX1_tell 60 = .ok (.aload_n 0, 1) := by decide +kernel
theorem dX1_tell_61 : decode cX1_tell 61 = .ok (.getfield 24, 3) := by decide +kernel
theorem dX1_tell_64 : decode cX1_tell 64 = .ok (.iload_n 1, 1) := by decide +kernel
theorem dX1_tell_65 : decode cX1_tell 65 = .ok (.iaload, 1) := by decide +kernel
theorem dX1_tell_66 : decode cX1_tell 66 = .ok (.ireturn, 1) := by decide +kernel
noncomputable def fX1_tell (rf : Nat → Nat → Nat) (a0 : Nat) (x1 : Int32) (x2 : Int32) (μ0 : o_Mem) : Option (Int32 × o_Mem) :=
  if x2 = 0 then (
    o_ck (0 ≤ (x1).toInt ∧ (x1).toInt < 12) <|
    some ((μ0.1 (rf a0 1) x1.toNatClampNeg), μ0))
  else
  if x2 = 1 then (
    o_ck (0 ≤ (x1).toInt ∧ (x1).toInt < 12) <|
    some ((μ0.1 (rf a0 2) x1.toNatClampNeg), μ0))
  else
  if x2 = 2 then (
    o_ck (0 ≤ (x1).toInt ∧ (x1).toInt < 12) <|
    some ((μ0.1 (rf a0 3) x1.toNatClampNeg), μ0))
  else
  if x2 = 3 then (
    o_ck (0 ≤ (x1).toInt ∧ (x1).toInt < 12) <|
    some ((μ0.1 (rf a0 4) x1.toNatClampNeg), μ0))
  else
    o_ck (0 ≤ (x1).toInt ∧ (x1).toInt < 12) <|
    some ((μ0.1 (rf a0 5) x1.toNatClampNeg), μ0)
set_option maxRecDepth 20000 in
theorem dnX1_tell {X : o_Cx} (hX : o_ok X) {d : Nat} {a0 : Nat} {x1 : Int32} {x2 : Int32} {μ0 : o_Mem} {q : Int32 → o_Mem → Prop} (h0 : o_is X a0 (.inl 1)) (h : o_Post (fX1_tell (o_rf X) a0 x1 x2 μ0) q) : o_Ev X (d + 0) mX1_tell 0 [some (.ref (o_ad X a0)), some (.int x1), some (.int x2)] [] μ0 (o_QI q) := by
  unfold fX1_tell at h
  refine s_iload_n (i := 2) dX1_tell_0 rfl rfl ?_
  by_cases e0 : x2 = 0
  · have h := o_if_t e0 h
    refine s_table (off := 31) (tgt := 32) dX1_tell_1 rfl (by rw [e0]; decide) rfl ?_
    refine s_aload_n (i := 0) dX1_tell_32 rfl rfl ?_
    refine s_getR hX h0 flX1_9 rfl dX1_tell_33 (fun (g1 : o_is X (o_rf X a0 1) (.inr (0, 12))) => ?_)
    refine s_iload_n (i := 1) dX1_tell_36 rfl rfl ?_
    have hc := o_ck_c h
    have h := o_ck_k h
    refine s_ialdK g1 hc rfl dX1_tell_37 ?_
    exact s_ireturn rfl dX1_tell_38 ⟨_, rfl, o_ret h⟩
  have h := o_if_f e0 h
  by_cases e1 : x2 = 1
  · have h := o_if_t e1 h
    refine s_table (off := 38) (tgt := 39) dX1_tell_1 rfl (by rw [e1]; decide) rfl ?_
    refine s_aload_n (i := 0) dX1_tell_39 rfl rfl ?_
    refine s_getR hX h0 flX1_15 rfl dX1_tell_40 (fun (g2 : o_is X (o_rf X a0 2) (.inr (0, 12))) => ?_)
    refine s_iload_n (i := 1) dX1_tell_43 rfl rfl ?_
    have hc := o_ck_c h
    have h := o_ck_k h
    refine s_ialdK g2 hc rfl dX1_tell_44 ?_
    exact s_ireturn rfl dX1_tell_45 ⟨_, rfl, o_ret h⟩
  have h := o_if_f e1 h
  by_cases e2 : x2 = 2
  · have h := o_if_t e2 h
    refine s_table (off := 45) (tgt := 46) dX1_tell_1 rfl (by rw [e2]; decide) rfl ?_
    refine s_aload_n (i := 0) dX1_tell_46 rfl rfl ?_
    refine s_getR hX h0 flX1_18 rfl dX1_tell_47 (fun (g3 : o_is X (o_rf X a0 3) (.inr (0, 12))) => ?_)
    refine s_iload_n (i := 1) dX1_tell_50 rfl rfl ?_
    have hc := o_ck_c h
    have h := o_ck_k h
    refine s_ialdK g3 hc rfl dX1_tell_51 ?_
    exact s_ireturn rfl dX1_tell_52 ⟨_, rfl, o_ret h⟩
  have h := o_if_f e2 h
  by_cases e3 : x2 = 3
  · have h := o_if_t e3 h
    refine s_table (off := 52) (tgt := 53) dX1_tell_1 rfl (by rw [e3]; decide) rfl ?_
    refine s_aload_n (i := 0) dX1_tell_53 rfl rfl ?_
    refine s_getR hX h0 flX1_21 rfl dX1_tell_54 (fun (g4 : o_is X (o_rf X a0 4) (.inr (0, 12))) => ?_)
    refine s_iload_n (i := 1) dX1_tell_57 rfl rfl ?_
    have hc := o_ck_c h
    have h := o_ck_k h
    refine s_ialdK g4 hc rfl dX1_tell_58 ?_
    exact s_ireturn rfl dX1_tell_59 ⟨_, rfl, o_ret h⟩
  have h := o_if_f e3 h
  have n0 := lv_neT (a := 0) e0 (by decide)
  have n1 := lv_neT (a := 1) e1 (by decide)
  have n2 := lv_neT (a := 2) e2 (by decide)
  have n3 := lv_neT (a := 3) e3 (by decide)
  have hz : (x2).toInt < 0 ∨ 3 < (x2).toInt := by omega
  refine s_table (off := 59) (tgt := 60) dX1_tell_1 rfl (o_tabD hz) rfl ?_
  refine s_aload_n (i := 0) dX1_tell_60 rfl rfl ?_
  refine s_getR hX h0 flX1_24 rfl dX1_tell_61 (fun (g5 : o_is X (o_rf X a0 5) (.inr (0, 12))) => ?_)
  refine s_iload_n (i := 1) dX1_tell_64 rfl rfl ?_
  have hc := o_ck_c h
  have h := o_ck_k h
  refine s_ialdK g5 hc rfl dX1_tell_65 ?_
  exact s_ireturn rfl dX1_tell_66 ⟨_, rfl, o_ret h⟩
theorem dX1_copyFrom_0 : decode cX1_copyFrom 0 = .ok (.aload_n 0, 1) := by decide +kernel
theorem dX1_copyFrom_1 : decode cX1_copyFrom 1 = .ok (.aload_n 1, 1) := by decide +kernel
theorem dX1_copyFrom_2 : decode cX1_copyFrom 2 = .ok (.getfield 27, 3) := by decide +kernel
theorem dX1_copyFrom_5 : decode cX1_copyFrom 5 = .ok (.putfield 27, 3) := by decide +kernel
theorem dX1_copyFrom_8 : decode cX1_copyFrom 8 = .ok (.aload_n 1, 1) := by decide +kernel
theorem dX1_copyFrom_9 : decode cX1_copyFrom 9 = .ok (.getfield 9, 3) := by decide +kernel
theorem dX1_copyFrom_12 : decode cX1_copyFrom 12 = .ok (.iconst 0, 1) := by decide +kernel
theorem dX1_copyFrom_13 : decode cX1_copyFrom 13 = .ok (.aload_n 0, 1) := by decide +kernel
theorem dX1_copyFrom_14 : decode cX1_copyFrom 14 = .ok (.getfield 9, 3) := by decide +kernel
theorem dX1_copyFrom_17 : decode cX1_copyFrom 17 = .ok (.iconst 0, 1) := by decide +kernel
theorem dX1_copyFrom_18 : decode cX1_copyFrom 18 = .ok (.bipush 12, 2) := by decide +kernel
theorem dX1_copyFrom_20 : decode cX1_copyFrom 20 = .ok (.invokestatic 31, 3) := by decide +kernel
theorem dX1_copyFrom_23 : decode cX1_copyFrom 23 = .ok (.aload_n 1, 1) := by decide +kernel
theorem dX1_copyFrom_24 : decode cX1_copyFrom 24 = .ok (.getfield 15, 3) := by decide +kernel
theorem dX1_copyFrom_27 : decode cX1_copyFrom 27 = .ok (.iconst 0, 1) := by decide +kernel
theorem dX1_copyFrom_28 : decode cX1_copyFrom 28 = .ok (.aload_n 0, 1) := by decide +kernel
theorem dX1_copyFrom_29 : decode cX1_copyFrom 29 = .ok (.getfield 15, 3) := by decide +kernel
theorem dX1_copyFrom_32 : decode cX1_copyFrom 32 = .ok (.iconst 0, 1) := by decide +kernel
theorem dX1_copyFrom_33 : decode cX1_copyFrom 33 = .ok (.bipush 12, 2) := by decide +kernel
theorem dX1_copyFrom_35 : decode cX1_copyFrom 35 = .ok (.invokestatic 31, 3) := by decide +kernel
theorem dX1_copyFrom_38 : decode cX1_copyFrom 38 = .ok (.aload_n 1, 1) := by decide +kernel
theorem dX1_copyFrom_39 : decode cX1_copyFrom 39 = .ok (.getfield 18, 3) := by decide +kernel
theorem dX1_copyFrom_42 : decode cX1_copyFrom 42 = .ok (.iconst 0, 1) := by decide +kernel
theorem dX1_copyFrom_43 : decode cX1_copyFrom 43 = .ok (.aload_n 0, 1) := by decide +kernel
theorem dX1_copyFrom_44 : decode cX1_copyFrom 44 = .ok (.getfield 18, 3) := by decide +kernel
theorem dX1_copyFrom_47 : decode cX1_copyFrom 47 = .ok (.iconst 0, 1) := by decide +kernel
theorem dX1_copyFrom_48 : decode cX1_copyFrom 48 = .ok (.bipush 12, 2) := by decide +kernel
theorem dX1_copyFrom_50 : decode cX1_copyFrom 50 = .ok (.invokestatic 31, 3) := by decide +kernel
theorem dX1_copyFrom_53 : decode cX1_copyFrom 53 = .ok (.aload_n 1, 1) := by decide +kernel
theorem dX1_copyFrom_54 : decode cX1_copyFrom 54 = .ok (.getfield 21, 3) := by decide +kernel
theorem dX1_copyFrom_57 : decode cX1_copyFrom 57 = .ok (.iconst 0, 1) := by decide +kernel
theorem dX1_copyFrom_58 : decode cX1_copyFrom 58 = .ok (.aload_n 0, 1) := by decide +kernel
theorem dX1_copyFrom_59 : decode cX1_copyFrom 59 = .ok (.getfield 21, 3) := by decide +kernel
theorem dX1_copyFrom_62 : decode cX1_copyFrom 62 = .ok (.iconst 0, 1) := by decide +kernel
theorem dX1_copyFrom_63 : decode cX1_copyFrom 63 = .ok (.bipush 12, 2) := by decide +kernel
theorem dX1_copyFrom_65 : decode cX1_copyFrom 65 = .ok (.invokestatic 31, 3) := by decide +kernel
theorem dX1_copyFrom_68 : decode cX1_copyFrom 68 = .ok (.aload_n 1, 1) := by decide +kernel
theorem dX1_copyFrom_69 : decode cX1_copyFrom 69 = .ok (.getfield 24, 3) := by decide +kernel
theorem dX1_copyFrom_72 : decode cX1_copyFrom 72 = .ok (.iconst 0, 1) := by decide +kernel
theorem dX1_copyFrom_73 : decode cX1_copyFrom 73 = .ok (.aload_n 0, 1) := by decide +kernel
theorem dX1_copyFrom_74 : decode cX1_copyFrom 74 = .ok (.getfield 24, 3) := by decide +kernel
theorem dX1_copyFrom_77 : decode cX1_copyFrom 77 = .ok (.iconst 0, 1) := by decide +kernel
theorem dX1_copyFrom_78 : decode cX1_copyFrom 78 = .ok (.bipush 12, 2) := by decide +kernel
theorem dX1_copyFrom_80 : decode cX1_copyFrom 80 = .ok (.invokestatic 31, 3) := by decide +kernel
theorem dX1_copyFrom_83 : decode cX1_copyFrom 83 = .ok (.return_, 1) := by decide +kernel
noncomputable def fX1_copyFrom (rf : Nat → Nat → Nat) (a0 : Nat) (a1 : Nat) (μ0 : o_Mem) : Option (Unit × o_Mem) :=
  o_seq (o_wI μ0 a0 0 (μ0.1 a1 0)) fun μ1 =>
  o_seq (o_sI μ1 (rf a0 1) (va_cpy (μ1.1 (rf a1 1)) (μ1.1 (rf a0 1)) 0 0 12)) fun μ2 =>
  o_seq (o_sI μ2 (rf a0 2) (va_cpy (μ2.1 (rf a1 2)) (μ2.1 (rf a0 2)) 0 0 12)) fun μ3 =>
  o_seq (o_sI μ3 (rf a0 3) (va_cpy (μ3.1 (rf a1 3)) (μ3.1 (rf a0 3)) 0 0 12)) fun μ4 =>
  o_seq (o_sI μ4 (rf a0 4) (va_cpy (μ4.1 (rf a1 4)) (μ4.1 (rf a0 4)) 0 0 12)) fun μ5 =>
  o_seq (o_sI μ5 (rf a0 5) (va_cpy (μ5.1 (rf a1 5)) (μ5.1 (rf a0 5)) 0 0 12)) fun μ6 =>
  some ((), μ6)
set_option maxRecDepth 20000 in
theorem dnX1_copyFrom {X : o_Cx} (hX : o_ok X) {d : Nat} {a0 : Nat} {a1 : Nat} {μ0 : o_Mem} {q : Unit → o_Mem → Prop} (h0 : o_is X a0 (.inl 1)) (h1 : o_is X a1 (.inl 1)) (h : o_Post (fX1_copyFrom (o_rf X) a0 a1 μ0) q) : o_Ev X (d + 1) mX1_copyFrom 0 [some (.ref (o_ad X a0)), some (.ref (o_ad X a1))] [] μ0 (o_QU q) := by
  unfold fX1_copyFrom at h
  refine s_aload_n (i := 0) dX1_copyFrom_0 rfl rfl ?_
  refine s_aload_n (i := 1) dX1_copyFrom_1 rfl rfl ?_
  refine s_getI h1 flX1_27 rfl dX1_copyFrom_2 ?_
  refine s_putI hX h0 fwX1_27 rfl dX1_copyFrom_5 (o_gen h (fun μ1 h => ?_))
  refine s_aload_n (i := 1) dX1_copyFrom_8 rfl rfl ?_
  refine s_getR hX h1 flX1_9 rfl dX1_copyFrom_9 (fun (g1 : o_is X (o_rf X a1 1) (.inr (0, 12))) => ?_)
  refine s_iconst dX1_copyFrom_12 kI_0 ?_
  refine s_aload_n (i := 0) dX1_copyFrom_13 rfl rfl ?_
  refine s_getR hX h0 flX1_9 rfl dX1_copyFrom_14 (fun (g2 : o_is X (o_rf X a0 1) (.inr (0, 12))) => ?_)
  refine s_iconst dX1_copyFrom_17 kI_0 ?_
  refine s_bipush dX1_copyFrom_18 kB_12 ?_
  refine s_copyIK hX g1 g2 mlX1_31 acn acs aci (by decide) (by decide) (by decide) (Nat.le_of_ble_eq_true rfl) (Nat.le_of_ble_eq_true rfl) kN_0 kN_0 kN_12 (Nat.le_of_ble_eq_true rfl) dX1_copyFrom_20 (o_gen h (fun μ2 h => ?_))
  refine s_aload_n (i := 1) dX1_copyFrom_23 rfl rfl ?_
  refine s_getR hX h1 flX1_15 rfl dX1_copyFrom_24 (fun (g3 : o_is X (o_rf X a1 2) (.inr (0, 12))) => ?_)
  refine s_iconst dX1_copyFrom_27 kI_0 ?_
  refine s_aload_n (i := 0) dX1_copyFrom_28 rfl rfl ?_
  refine s_getR hX h0 flX1_15 rfl dX1_copyFrom_29 (fun (g4 : o_is X (o_rf X a0 2) (.inr (0, 12))) => ?_)
  refine s_iconst dX1_copyFrom_32 kI_0 ?_
  refine s_bipush dX1_copyFrom_33 kB_12 ?_
  refine s_copyIK hX g3 g4 mlX1_31 acn acs aci (by decide) (by decide) (by decide) (Nat.le_of_ble_eq_true rfl) (Nat.le_of_ble_eq_true rfl) kN_0 kN_0 kN_12 (Nat.le_of_ble_eq_true rfl) dX1_copyFrom_35 (o_gen h (fun μ3 h => ?_))
  refine s_aload_n (i := 1) dX1_copyFrom_38 rfl rfl ?_
  refine s_getR hX h1 flX1_18 rfl dX1_copyFrom_39 (fun (g5 : o_is X (o_rf X a1 3) (.inr (0, 12))) => ?_)
  refine s_iconst dX1_copyFrom_42 kI_0 ?_
  refine s_aload_n (i := 0) dX1_copyFrom_43 rfl rfl ?_
  refine s_getR hX h0 flX1_18 rfl dX1_copyFrom_44 (fun (g6 : o_is X (o_rf X a0 3) (.inr (0, 12))) => ?_)
  refine s_iconst dX1_copyFrom_47 kI_0 ?_
  refine s_bipush dX1_copyFrom_48 kB_12 ?_
  refine s_copyIK hX g5 g6 mlX1_31 acn acs aci (by decide) (by decide) (by decide) (Nat.le_of_ble_eq_true rfl) (Nat.le_of_ble_eq_true rfl) kN_0 kN_0 kN_12 (Nat.le_of_ble_eq_true rfl) dX1_copyFrom_50 (o_gen h (fun μ4 h => ?_))
  refine s_aload_n (i := 1) dX1_copyFrom_53 rfl rfl ?_
  refine s_getR hX h1 flX1_21 rfl dX1_copyFrom_54 (fun (g7 : o_is X (o_rf X a1 4) (.inr (0, 12))) => ?_)
  refine s_iconst dX1_copyFrom_57 kI_0 ?_
  refine s_aload_n (i := 0) dX1_copyFrom_58 rfl rfl ?_
  refine s_getR hX h0 flX1_21 rfl dX1_copyFrom_59 (fun (g8 : o_is X (o_rf X a0 4) (.inr (0, 12))) => ?_)
  refine s_iconst dX1_copyFrom_62 kI_0 ?_
  refine s_bipush dX1_copyFrom_63 kB_12 ?_
  refine s_copyIK hX g7 g8 mlX1_31 acn acs aci (by decide) (by decide) (by decide) (Nat.le_of_ble_eq_true rfl) (Nat.le_of_ble_eq_true rfl) kN_0 kN_0 kN_12 (Nat.le_of_ble_eq_true rfl) dX1_copyFrom_65 (o_gen h (fun μ5 h => ?_))
  refine s_aload_n (i := 1) dX1_copyFrom_68 rfl rfl ?_
  refine s_getR hX h1 flX1_24 rfl dX1_copyFrom_69 (fun (g9 : o_is X (o_rf X a1 5) (.inr (0, 12))) => ?_)
  refine s_iconst dX1_copyFrom_72 kI_0 ?_
  refine s_aload_n (i := 0) dX1_copyFrom_73 rfl rfl ?_
  refine s_getR hX h0 flX1_24 rfl dX1_copyFrom_74 (fun (g10 : o_is X (o_rf X a0 5) (.inr (0, 12))) => ?_)
  refine s_iconst dX1_copyFrom_77 kI_0 ?_
  refine s_bipush dX1_copyFrom_78 kB_12 ?_
  refine s_copyIK hX g9 g10 mlX1_31 acn acs aci (by decide) (by decide) (by decide) (Nat.le_of_ble_eq_true rfl) (Nat.le_of_ble_eq_true rfl) kN_0 kN_0 kN_12 (Nat.le_of_ble_eq_true rfl) dX1_copyFrom_80 (o_gen h (fun μ6 h => ?_))
  exact s_return rfl dX1_copyFrom_83 ⟨rfl, o_ret h⟩
theorem dX8_hasDays_0 : decode cX8_hasDays 0 = .ok (.aload_n 0, 1) := by decide +kernel
theorem dX8_hasDays_1 : decode cX8_hasDays 1 = .ok (.getfield 60, 3) := by decide +kernel
theorem dX8_hasDays_4 : decode cX8_hasDays 4 = .ok (.iload_n 1, 1) := by decide +kernel
theorem dX8_hasDays_5 : decode cX8_hasDays 5 = .ok (.iadd, 1) := by decide +kernel
theorem dX8_hasDays_6 : decode cX8_hasDays 6 = .ok (.sipush 9999, 3) := by decide +kernel
theorem dX8_hasDays_9 : decode cX8_hasDays 9 = .ok (.if_icmp .gt 7, 3) := by decide +kernel
theorem dX8_hasDays_12 : decode cX8_hasDays 12 = .ok (.iconst 1, 1) := by decide +kernel
theorem dX8_hasDays_13 : decode cX8_hasDays 13 = .ok (.goto 4, 3) := by decide +kernel
theorem dX8_hasDays_16 : decode cX8_hasDays 16 = .ok (.iconst 0, 1) := by decide +kernel
theorem dX8_hasDays_17 : decode cX8_hasDays 17 = .ok (.ireturn, 1) := by decide +kernel
noncomputable def fX8_hasDays (rf : Nat → Nat → Nat) (a0 : Nat) (x1 : Int32) (μ0 : o_Mem) : Option (Int32 × o_Mem) :=
  if 9999 < ((μ0.1 a0 5) + x1) then (
    some (0, μ0))
  else (
    some (1, μ0))
set_option maxRecDepth 20000 in
theorem dnX8_hasDays {X : o_Cx} (hX : o_ok X) {d : Nat} {a0 : Nat} {x1 : Int32} {μ0 : o_Mem} {q : Int32 → o_Mem → Prop} (h0 : o_is X a0 (.inl 8)) (h : o_Post (fX8_hasDays (o_rf X) a0 x1 μ0) q) : o_Ev X (d + 0) mX8_hasDays 0 [some (.ref (o_ad X a0)), some (.int x1)] [] μ0 (o_QZ q) := by
  unfold fX8_hasDays at h
  refine s_aload_n (i := 0) dX8_hasDays_0 rfl rfl ?_
  refine s_getI h0 flX8_60 rfl dX8_hasDays_1 ?_
  refine s_iload_n (i := 1) dX8_hasDays_4 rfl rfl ?_
  refine s_iadd dX8_hasDays_5 ?_
  refine s_sipush dX8_hasDays_6 kS_9999 ?_
  refine s_icmp_gt (tgt := 16) dX8_hasDays_9 rfl (fun c1 => ?_) (fun c1 => ?_)
  · have h := o_if_t c1 h
    refine s_iconst dX8_hasDays_16 kI_0 ?_
    exact s_zreturn rfl (Or.inl rfl) dX8_hasDays_17 ⟨_, rfl, (Or.inl rfl), o_ret h⟩
  · have h := o_if_f c1 h
    refine s_iconst dX8_hasDays_12 kI_1 ?_
    refine s_goto (tgt := 17) dX8_hasDays_13 rfl ?_
    exact s_zreturn rfl (Or.inr rfl) dX8_hasDays_17 ⟨_, rfl, (Or.inr rfl), o_ret h⟩
theorem dX8_count_0 : decode cX8_count 0 = .ok (.aload_n 0, 1) := by decide +kernel
theorem dX8_count_1 : decode cX8_count 1 = .ok (.dup, 1) := by decide +kernel
theorem dX8_count_2 : decode cX8_count 2 = .ok (.getfield 67, 3) := by decide +kernel
theorem dX8_count_5 : decode cX8_count 5 = .ok (.iconst 1, 1) := by decide +kernel
theorem dX8_count_6 : decode cX8_count 6 = .ok (.iadd, 1) := by decide +kernel
theorem dX8_count_7 : decode cX8_count 7 = .ok (.putfield 67, 3) := by decide +kernel
theorem dX8_count_10 : decode cX8_count 10 = .ok (.iload_n 1, 1) := by decide +kernel
theorem dX8_count_11 : decode cX8_count 11 = .ok (.iconst (-1), 1) := by decide +kernel
theorem dX8_count_12 : decode cX8_count 12 = .ok (.if_icmp .ne 16, 3) := by decide +kernel
theorem dX8_count_15 : decode cX8_count 15 = .ok (.aload_n 0, 1) := by decide +kernel
theorem dX8_count_16 : decode cX8_count 16 = .ok (.dup, 1) := by decide +kernel
theorem dX8_count_17 : decode cX8_count 17 = .ok (.getfield 70, 3) := by decide +kernel
theorem dX8_count_20 : decode cX8_count 20 = .ok (.iconst 1, 1) := by decide +kernel
theorem dX8_count_21 : decode cX8_count 21 = .ok (.iadd, 1) := by decide +kernel
theorem dX8_count_22 : decode cX8_count 22 = .ok (.putfield 70, 3) := by decide +kernel
theorem dX8_count_25 : decode cX8_count 25 = .ok (.goto 13, 3) := by decide +kernel
theorem dX8_count_28 : decode cX8_count 28 = .ok (.aload_n 0, 1) := by decide +kernel
theorem dX8_count_29 : decode cX8_count 29 = .ok (.getfield 19, 3) := by decide +kernel
theorem dX8_count_32 : decode cX8_count 32 = .ok (.iload_n 1, 1) := by decide +kernel
theorem dX8_count_33 : decode cX8_count 33 = .ok (.dup2, 1) := by decide +kernel
theorem dX8_count_34 : decode cX8_count 34 = .ok (.iaload, 1) := by decide +kernel
theorem dX8_count_35 : decode cX8_count 35 = .ok (.iconst 1, 1) := by decide +kernel
theorem dX8_count_36 : decode cX8_count 36 = .ok (.iadd, 1) := by decide +kernel
theorem dX8_count_37 : decode cX8_count 37 = .ok (.iastore, 1) := by decide +kernel
theorem dX8_count_38 : decode cX8_count 38 = .ok (.return_, 1) := by decide +kernel
noncomputable def fX8_count (rf : Nat → Nat → Nat) (a0 : Nat) (x1 : Int32) (μ0 : o_Mem) : Option (Unit × o_Mem) :=
  o_seq (o_wI μ0 a0 7 ((μ0.1 a0 7) + 1)) fun μ1 =>
  if x1 = (-1) then (
    o_seq (o_wI μ1 a0 8 ((μ1.1 a0 8) + 1)) fun μ3 =>
    some ((), μ3))
  else (
    o_ck (0 ≤ (x1).toInt ∧ (x1).toInt < 6) <|
    o_ck (0 ≤ (x1).toInt ∧ (x1).toInt < 6) <|
    o_seq (o_wI μ1 (rf a0 10) x1.toNatClampNeg ((μ1.1 (rf a0 10) x1.toNatClampNeg) + 1)) fun μ2 =>
    some ((), μ2))
set_option maxRecDepth 20000 in
theorem dnX8_count {X : o_Cx} (hX : o_ok X) {d : Nat} {a0 : Nat} {x1 : Int32} {μ0 : o_Mem} {q : Unit → o_Mem → Prop} (h0 : o_is X a0 (.inl 8)) (h : o_Post (fX8_count (o_rf X) a0 x1 μ0) q) : o_Ev X (d + 0) mX8_count 0 [some (.ref (o_ad X a0)), some (.int x1)] [] μ0 (o_QU q) := by
  unfold fX8_count at h
  refine s_aload_n (i := 0) dX8_count_0 rfl rfl ?_
  refine s_dup dX8_count_1 rfl ?_
  refine s_getI h0 flX8_67 rfl dX8_count_2 ?_
  refine s_iconst dX8_count_5 kI_1 ?_
  refine s_iadd dX8_count_6 ?_
  refine s_putI hX h0 fwX8_67 rfl dX8_count_7 (o_gen h (fun μ1 h => ?_))
  refine s_iload_n (i := 1) dX8_count_10 rfl rfl ?_
  refine s_iconst dX8_count_11 kI_m1 ?_
  refine s_icmp_ne (tgt := 28) dX8_count_12 rfl (fun c1 => ?_) (fun c1 => ?_)
  · have h := o_if_f c1 h
    refine s_aload_n (i := 0) dX8_count_28 rfl rfl ?_
    refine s_getR hX h0 flX8_19 rfl dX8_count_29 (fun (g1 : o_is X (o_rf X a0 10) (.inr (0, 6))) => ?_)
    refine s_iload_n (i := 1) dX8_count_32 rfl rfl ?_
    refine s_dup2 dX8_count_33 rfl rfl ?_
    have hc := o_ck_c h
    have h := o_ck_k h
    refine s_ialdK g1 hc rfl dX8_count_34 ?_
    refine s_iconst dX8_count_35 kI_1 ?_
    refine s_iadd dX8_count_36 ?_
    have hc := o_ck_c h
    have h := o_ck_k h
    refine s_iastK hX g1 hc rfl dX8_count_37 (o_gen h (fun μ2 h => ?_))
    exact s_return rfl dX8_count_38 ⟨rfl, o_ret h⟩
  · have h := o_if_t c1 h
    refine s_aload_n (i := 0) dX8_count_15 rfl rfl ?_
    refine s_dup dX8_count_16 rfl ?_
    refine s_getI h0 flX8_70 rfl dX8_count_17 ?_
    refine s_iconst dX8_count_20 kI_1 ?_
    refine s_iadd dX8_count_21 ?_
    refine s_putI hX h0 fwX8_70 rfl dX8_count_22 (o_gen h (fun μ3 h => ?_))
    refine s_goto (tgt := 38) dX8_count_25 rfl ?_
    exact s_return rfl dX8_count_38 ⟨rfl, o_ret h⟩
theorem dX8_strikeBehind_0 : decode cX8_strikeBehind 0 = .ok (.iload_n 1, 1) := by decide +kernel
theorem dX8_strikeBehind_1 : decode cX8_strikeBehind 1 = .ok (.iconst (-1), 1) := by decide +kernel
theorem dX8_strikeBehind_2 : decode cX8_strikeBehind 2 = .ok (.if_icmp .ne 5, 3) := by decide +kernel
theorem dX8_strikeBehind_5 : decode cX8_strikeBehind 5 = .ok (.iconst (-1), 1) := by decide +kernel
theorem dX8_strikeBehind_6 : decode cX8_strikeBehind 6 = .ok (.ireturn, 1) := by decide +kernel
theorem dX8_strikeBehind_7 : decode cX8_strikeBehind 7 = .ok (.iload_n 1, 1) := by decide +kernel
theorem dX8_strikeBehind_8 : decode cX8_strikeBehind 8 = .ok (.iconst 1, 1) := by decide +kernel
theorem dX8_strikeBehind_9 : decode cX8_strikeBehind 9 = .ok (.iadd, 1) := by decide +kernel
theorem dX8_strikeBehind_10 : decode cX8_strikeBehind 10 = .ok (.aload_n 0, 1) := by decide +kernel
theorem dX8_strikeBehind_11 : decode cX8_strikeBehind 11 = .ok (.getfield 48, 3) := by decide +kernel
theorem dX8_strikeBehind_14 : decode cX8_strikeBehind 14 = .ok (.if_icmp .ge 9, 3) := by decide +kernel
theorem dX8_strikeBehind_17 : decode cX8_strikeBehind 17 = .ok (.iload_n 1, 1) := by decide +kernel
theorem dX8_strikeBehind_18 : decode cX8_strikeBehind 18 = .ok (.iconst 1, 1) := by decide +kernel
theorem dX8_strikeBehind_19 : decode cX8_strikeBehind 19 = .ok (.iadd, 1) := by decide +kernel
theorem dX8_strikeBehind_20 : decode cX8_strikeBehind 20 = .ok (.goto 4, 3) := by decide +kernel
theorem dX8_strikeBehind_23 : decode cX8_strikeBehind 23 = .ok (.iconst 0, 1) := by decide +kernel
theorem dX8_strikeBehind_24 : decode cX8_strikeBehind 24 = .ok (.ireturn, 1) := by decide +kernel
noncomputable def fX8_strikeBehind (rf : Nat → Nat → Nat) (a0 : Nat) (x1 : Int32) (μ0 : o_Mem) : Option (Int32 × o_Mem) :=
  if x1 = (-1) then (
    some ((-1), μ0))
  else (
    if (μ0.1 a0 0) ≤ (x1 + 1) then (
      some (0, μ0))
    else (
      some ((x1 + 1), μ0)))
set_option maxRecDepth 20000 in
theorem dnX8_strikeBehind {X : o_Cx} (hX : o_ok X) {d : Nat} {a0 : Nat} {x1 : Int32} {μ0 : o_Mem} {q : Int32 → o_Mem → Prop} (h0 : o_is X a0 (.inl 8)) (h : o_Post (fX8_strikeBehind (o_rf X) a0 x1 μ0) q) : o_Ev X (d + 0) mX8_strikeBehind 0 [some (.ref (o_ad X a0)), some (.int x1)] [] μ0 (o_QI q) := by
  unfold fX8_strikeBehind at h
  refine s_iload_n (i := 1) dX8_strikeBehind_0 rfl rfl ?_
  refine s_iconst dX8_strikeBehind_1 kI_m1 ?_
  refine s_icmp_ne (tgt := 7) dX8_strikeBehind_2 rfl (fun c1 => ?_) (fun c1 => ?_)
  · have h := o_if_f c1 h
    refine s_iload_n (i := 1) dX8_strikeBehind_7 rfl rfl ?_
    refine s_iconst dX8_strikeBehind_8 kI_1 ?_
    refine s_iadd dX8_strikeBehind_9 ?_
    refine s_aload_n (i := 0) dX8_strikeBehind_10 rfl rfl ?_
    refine s_getI h0 flX8_48 rfl dX8_strikeBehind_11 ?_
    refine s_icmp_ge (tgt := 23) dX8_strikeBehind_14 rfl (fun c1 => ?_) (fun c1 => ?_)
    · have h := o_if_t c1 h
      refine s_iconst dX8_strikeBehind_23 kI_0 ?_
      exact s_ireturn rfl dX8_strikeBehind_24 ⟨_, rfl, o_ret h⟩
    · have h := o_if_f c1 h
      refine s_iload_n (i := 1) dX8_strikeBehind_17 rfl rfl ?_
      refine s_iconst dX8_strikeBehind_18 kI_1 ?_
      refine s_iadd dX8_strikeBehind_19 ?_
      refine s_goto (tgt := 24) dX8_strikeBehind_20 rfl ?_
      exact s_ireturn rfl dX8_strikeBehind_24 ⟨_, rfl, o_ret h⟩
  · have h := o_if_t c1 h
    refine s_iconst dX8_strikeBehind_5 kI_m1 ?_
    exact s_ireturn rfl dX8_strikeBehind_6 ⟨_, rfl, o_ret h⟩
theorem dX8_bringTo_0 : decode cX8_bringTo 0 = .ok (.iconst 0, 1) := by decide +kernel
theorem dX8_bringTo_1 : decode cX8_bringTo 1 = .ok (.istore_n 2, 1) := by decide +kernel
theorem dX8_bringTo_2 : decode cX8_bringTo 2 = .ok (.iload_n 2, 1) := by decide +kernel
theorem dX8_bringTo_3 : decode cX8_bringTo 3 = .ok (.aload_n 0, 1) := by decide +kernel
theorem dX8_bringTo_4 : decode cX8_bringTo 4 = .ok (.getfield 37, 3) := by decide +kernel
theorem dX8_bringTo_7 : decode cX8_bringTo 7 = .ok (.getfield 79, 3) := by decide +kernel
theorem dX8_bringTo_10 : decode cX8_bringTo 10 = .ok (.if_icmp .ge 120, 3) := by decide +kernel
theorem dX8_bringTo_13 : decode cX8_bringTo 13 = .ok (.aload_n 0, 1) := by decide +kernel
theorem dX8_bringTo_14 : decode cX8_bringTo 14 = .ok (.getfield 37, 3) := by decide +kernel
theorem dX8_bringTo_17 : decode cX8_bringTo 17 = .ok (.getfield 138, 3) := by decide +kernel
theorem dX8_bringTo_20 : decode cX8_bringTo 20 = .ok (.iload_n 2, 1) := by decide +kernel
theorem dX8_bringTo_21 : decode cX8_bringTo 21 = .ok (.iaload, 1) := by decide +kernel
theorem dX8_bringTo_22 : decode cX8_bringTo 22 = .ok (.iload_n 1, 1) := by decide +kernel
theorem dX8_bringTo_23 : decode cX8_bringTo 23 = .ok (.if_icmp .ne 101, 3) := by decide +kernel
theorem dX8_bringTo_26 : decode cX8_bringTo 26 = .ok (.aload_n 0, 1) := by decide +kernel
theorem dX8_bringTo_27 : decode cX8_bringTo 27 = .ok (.aload_n 0, 1) := by decide +kernel
theorem dX8_bringTo_28 : decode cX8_bringTo 28 = .ok (.aload_n 0, 1) := by decide +kernel
theorem dX8_bringTo_29 : decode cX8_bringTo 29 = .ok (.getfield 37, 3) := by decide +kernel
theorem dX8_bringTo_32 : decode cX8_bringTo 32 = .ok (.getfield 141, 3) := by decide +kernel
theorem dX8_bringTo_35 : decode cX8_bringTo 35 = .ok (.iload_n 2, 1) := by decide +kernel
theorem dX8_bringTo_36 : decode cX8_bringTo 36 = .ok (.iaload, 1) := by decide +kernel
theorem dX8_bringTo_37 : decode cX8_bringTo 37 = .ok (.iload_n 1, 1) := by decide +kernel
theorem dX8_bringTo_38 : decode cX8_bringTo 38 = .ok (.aload_n 0, 1) := by decide +kernel
theorem dX8_bringTo_39 : decode cX8_bringTo 39 = .ok (.getfield 37, 3) := by decide +kernel
theorem dX8_bringTo_42 : decode cX8_bringTo 42 = .ok (.getfield 144, 3) := by decide +kernel
theorem dX8_bringTo_45 : decode cX8_bringTo 45 = .ok (.iload_n 2, 1) := by decide +kernel
theorem dX8_bringTo_46 : decode cX8_bringTo 46 = .ok (.iaload, 1) := by decide +kernel
theorem dX8_bringTo_47 : decode cX8_bringTo 47 = .ok (.aload_n 0, 1) := by decide +kernel
theorem dX8_bringTo_48 : decode cX8_bringTo 48 = .ok (.getfield 37, 3) := by decide +kernel
theorem dX8_bringTo_51 : decode cX8_bringTo 51 = .ok (.getfield 147, 3) := by decide +kernel
theorem dX8_bringTo_54 : decode cX8_bringTo 54 = .ok (.iload_n 2, 1) := by decide +kernel
theorem dX8_bringTo_55 : decode cX8_bringTo 55 = .ok (.iaload, 1) := by decide +kernel
theorem dX8_bringTo_56 : decode cX8_bringTo 56 = .ok (.invokevirtual 121, 3) := by decide +kernel
theorem dX8_bringTo_59 : decode cX8_bringTo 59 = .ok (.invokevirtual 125, 3) := by decide +kernel
theorem dX8_bringTo_62 : decode cX8_bringTo 62 = .ok (.istore_n 3, 1) := by decide +kernel
theorem dX8_bringTo_63 : decode cX8_bringTo 63 = .ok (.aload_n 0, 1) := by decide +kernel
theorem dX8_bringTo_64 : decode cX8_bringTo 64 = .ok (.getfield 63, 3) := by decide +kernel
theorem dX8_bringTo_67 : decode cX8_bringTo 67 = .ok (.ifCond .eq 11, 3) := by decide +kernel
theorem dX8_bringTo_70 : decode cX8_bringTo 70 = .ok (.aload_n 0, 1) := by decide +kernel
theorem dX8_bringTo_71 : decode cX8_bringTo 71 = .ok (.iload_n 3, 1) := by decide +kernel
theorem dX8_bringTo_72 : decode cX8_bringTo 72 = .ok (.invokevirtual 150, 3) := by decide +kernel
theorem dX8_bringTo_75 : decode cX8_bringTo 75 = .ok (.goto 4, 3) := by decide +kernel
theorem dX8_bringTo_78 : decode cX8_bringTo 78 = .ok (.iload_n 3, 1) := by decide +kernel
theorem dX8_bringTo_79 : decode cX8_bringTo 79 = .ok (.istore 4, 2) := by decide +kernel
theorem dX8_bringTo_81 : decode cX8_bringTo 81 = .ok (.aload_n 0, 1) := by decide +kernel
theorem dX8_bringTo_82 : decode cX8_bringTo 82 = .ok (.getfield 41, 3) := by decide +kernel
theorem dX8_bringTo_85 : decode cX8_bringTo 85 = .ok (.aload_n 0, 1) := by decide +kernel
theorem dX8_bringTo_86 : decode cX8_bringTo 86 = .ok (.getfield 37, 3) := by decide +kernel
theorem dX8_bringTo_89 : decode cX8_bringTo 89 = .ok (.getfield 141, 3) := by decide +kernel
theorem dX8_bringTo_92 : decode cX8_bringTo 92 = .ok (.iload_n 2, 1) := by decide +kernel
theorem dX8_bringTo_93 : decode cX8_bringTo 93 = .ok (.iaload, 1) := by decide +kernel
theorem dX8_bringTo_94 : decode cX8_bringTo 94 = .ok (.iload_n 1, 1) := by decide +kernel
theorem dX8_bringTo_95 : decode cX8_bringTo 95 = .ok (.aload_n 0, 1) := by decide +kernel
theorem dX8_bringTo_96 : decode cX8_bringTo 96 = .ok (.getfield 37, 3) := by decide +kernel
theorem dX8_bringTo_99 : decode cX8_bringTo 99 = .ok (.getfield 144, 3) := by decide +kernel
theorem dX8_bringTo_102 : decode cX8_bringTo 102 = .ok (.iload_n 2, 1) := by decide +kernel
theorem dX8_bringTo_103 : decode cX8_bringTo 103 = .ok (.iaload, 1) := by decide +kernel
theorem dX8_bringTo_104 : decode cX8_bringTo 104 = .ok (.aload_n 0, 1) := by decide +kernel
theorem dX8_bringTo_105 : decode cX8_bringTo 105 = .ok (.getfield 37, 3) := by decide +kernel
theorem dX8_bringTo_108 : decode cX8_bringTo 108 = .ok (.getfield 147, 3) := by decide +kernel
theorem dX8_bringTo_111 : decode cX8_bringTo 111 = .ok (.iload_n 2, 1) := by decide +kernel
theorem dX8_bringTo_112 : decode cX8_bringTo 112 = .ok (.iaload, 1) := by decide +kernel
theorem dX8_bringTo_113 : decode cX8_bringTo 113 = .ok (.iload 4, 2) := by decide +kernel
theorem dX8_bringTo_115 : decode cX8_bringTo 115 = .ok (.invokevirtual 153, 3) := by decide +kernel
theorem dX8_bringTo_118 : decode cX8_bringTo 118 = .ok (.aload_n 0, 1) := by decide +kernel
theorem dX8_bringTo_119 : decode cX8_bringTo 119 = .ok (.iload 4, 2) := by decide +kernel
theorem dX8_bringTo_121 : decode cX8_bringTo 121 = .ok (.invokevirtual 157, 3) := by decide +kernel
theorem dX8_bringTo_124 : decode cX8_bringTo 124 = .ok (.iinc 2 1, 3) := by decide +kernel
theorem dX8_bringTo_127 : decode cX8_bringTo 127 = .ok (.goto (-125), 3) := by decide +kernel
theorem dX8_bringTo_130 : decode cX8_bringTo 130 = .ok (.return_, 1) := by decide +kernel
noncomputable def fX8_bringTo_j79 (rf : Nat → Nat → Nat) (a0 : Nat) (x1 : Int32) (x2 : Int32) (y0 : Int32) (μ0 : o_Mem) : Option ((Nat × (Int32)) × o_Mem) :=
  o_ck (0 ≤ (x2).toInt ∧ (x2).toInt < 12) <|
  o_ck (0 ≤ (x2).toInt ∧ (x2).toInt < 12) <|
  o_ck (0 ≤ (x2).toInt ∧ (x2).toInt < 12) <|
  o_bd (fX1_add rf (rf a0 16) (μ0.1 (rf (rf a0 15) 1) x2.toNatClampNeg) x1 (μ0.1 (rf (rf a0 15) 3) x2.toNatClampNeg) (μ0.1 (rf (rf a0 15) 4) x2.toNatClampNeg) y0 μ0) fun _u μ1 =>
  o_bd (fX8_count rf a0 y0 μ1) fun _u μ2 =>
  some ((2, (x2 + 1)), μ2)
noncomputable def fX8_bringTo_s2 (rf : Nat → Nat → Nat) (a0 : Nat) (x1 : Int32) (τ2 : Int32) (μ0 : o_Mem) : Option ((Nat × (Int32)) × o_Mem) :=
  if (μ0.1 (rf a0 15) 0) ≤ τ2 then (
    some ((130, 0), μ0))
  else (
    o_ck (0 ≤ (τ2).toInt ∧ (τ2).toInt < 12) <|
    if (μ0.1 (rf (rf a0 15) 2) τ2.toNatClampNeg) = x1 then (
      o_ck (0 ≤ (τ2).toInt ∧ (τ2).toInt < 12) <|
      o_ck (0 ≤ (τ2).toInt ∧ (τ2).toInt < 12) <|
      o_ck (0 ≤ (τ2).toInt ∧ (τ2).toInt < 12) <|
      o_bd (fX8_firstFit rf a0 (μ0.1 (rf (rf a0 15) 1) τ2.toNatClampNeg) x1 (μ0.1 (rf (rf a0 15) 3) τ2.toNatClampNeg) (μ0.1 (rf (rf a0 15) 4) τ2.toNatClampNeg) μ0) fun r1 μ1 =>
      o_bd (fX8_strikeBy rf a0 r1 μ1) fun r2 μ2 =>
      if (μ2.1 a0 6) = 0 then (
        fX8_bringTo_j79 rf a0 x1 τ2 r2 μ2)
      else (
        o_bd (fX8_strikeBehind rf a0 r2 μ2) fun r3 μ3 =>
        fX8_bringTo_j79 rf a0 x1 τ2 r3 μ3))
    else (
      some ((2, (τ2 + 1)), μ0)))
noncomputable def fX8_bringTo (rf : Nat → Nat → Nat) (a0 : Nat) (x1 : Int32) (μ0 : o_Mem) : Option (Unit × o_Mem) :=
  o_bd (o_lp 2 (fX8_bringTo_s2 rf a0 x1) o_fuel (0 : Int32) μ0) fun ex1 μ1 =>
  if ex1.1 = 130 then (
    some ((), μ1))
  else
    none
set_option maxRecDepth 20000 in
theorem dnX8_bringTo_j79 {X : o_Cx} (hX : o_ok X) {d : Nat} {a0 : Nat} {x1 : Int32} {x2 : Int32} {y0 : Int32} {μ0 : o_Mem} {K : (Nat × (Int32)) → o_Mem → Prop} {Q : Option Value → o_Mem → Prop} (h0 : o_is X a0 (.inl 8)) (h : o_Post (fX8_bringTo_j79 (o_rf X) a0 x1 x2 y0 μ0) K) (kh : ∀ (τ2 : Int32) (μ : o_Mem), K (2, τ2) μ → o_Ev X (d + 2) mX8_bringTo 2 [some (.ref (o_ad X a0)), some (.int x1), some (.int τ2), none, none] [] μ Q) (k130 : ∀ (τ2 : Int32) (μ : o_Mem), K (130, τ2) μ → o_Ev X (d + 2) mX8_bringTo 130 [none, none, none, none, none] [] μ Q) : o_Ev X (d + 2) mX8_bringTo 79 [some (.ref (o_ad X a0)), some (.int x1), some (.int x2), none, none] [.int y0] μ0 Q := by
  unfold fX8_bringTo_j79 at h
  refine s_istore dX8_bringTo_79 (Nat.le_of_ble_eq_true rfl) rfl ?_
  refine s_aload_n (i := 0) dX8_bringTo_81 rfl rfl ?_
  refine s_getR hX h0 flX8_41 rfl dX8_bringTo_82 (fun (g1 : o_is X (o_rf X a0 16) (.inl 1)) => ?_)
  refine s_aload_n (i := 0) dX8_bringTo_85 rfl rfl ?_
  refine s_getR hX h0 flX8_37 rfl dX8_bringTo_86 (fun (g2 : o_is X (o_rf X a0 15) (.inl 1)) => ?_)
  refine s_getR hX g2 flX8_141 rfl dX8_bringTo_89 (fun (g3 : o_is X (o_rf X (o_rf X a0 15) 1) (.inr (0, 12))) => ?_)
  refine s_iload_n (i := 2) dX8_bringTo_92 rfl rfl ?_
  have hc := o_ck_c h
  have h := o_ck_k h
  refine s_ialdK g3 hc rfl dX8_bringTo_93 ?_
  refine s_iload_n (i := 1) dX8_bringTo_94 rfl rfl ?_
  refine s_aload_n (i := 0) dX8_bringTo_95 rfl rfl ?_
  refine s_getR hX h0 flX8_37 rfl dX8_bringTo_96 (fun (g4 : o_is X (o_rf X a0 15) (.inl 1)) => ?_)
  refine s_getR hX g4 flX8_144 rfl dX8_bringTo_99 (fun (g5 : o_is X (o_rf X (o_rf X a0 15) 3) (.inr (0, 12))) => ?_)
  refine s_iload_n (i := 2) dX8_bringTo_102 rfl rfl ?_
  have hc := o_ck_c h
  have h := o_ck_k h
  refine s_ialdK g5 hc rfl dX8_bringTo_103 ?_
  refine s_aload_n (i := 0) dX8_bringTo_104 rfl rfl ?_
  refine s_getR hX h0 flX8_37 rfl dX8_bringTo_105 (fun (g6 : o_is X (o_rf X a0 15) (.inl 1)) => ?_)
  refine s_getR hX g6 flX8_147 rfl dX8_bringTo_108 (fun (g7 : o_is X (o_rf X (o_rf X a0 15) 4) (.inr (0, 12))) => ?_)
  refine s_iload_n (i := 2) dX8_bringTo_111 rfl rfl ?_
  have hc := o_ck_c h
  have h := o_ck_k h
  refine s_ialdK g7 hc rfl dX8_bringTo_112 ?_
  refine s_iload dX8_bringTo_113 rfl ?_
  refine s_callVu (C := mX1_add) (As := [.int (μ0.1 (o_rf X (o_rf X a0 15) 1) x2.toNatClampNeg), .int x1, .int (μ0.1 (o_rf X (o_rf X a0 15) 3) x2.toNatClampNeg), .int (μ0.1 (o_rf X (o_rf X a0 15) 4) x2.toNatClampNeg), .int y0]) (rest := []) (L0 := [some (.ref (o_ad X (o_rf X a0 16))), some (.int (μ0.1 (o_rf X (o_rf X a0 15) 1) x2.toNatClampNeg)), some (.int x1), some (.int (μ0.1 (o_rf X (o_rf X a0 15) 3) x2.toNatClampNeg)), some (.int (μ0.1 (o_rf X (o_rf X a0 15) 4) x2.toNatClampNeg)), some (.int y0)]) hX g1 clX8_153 dX8_bringTo_115 rfl rfl (Nat.le_of_ble_eq_true rfl) (Nat.le_of_ble_eq_true rfl) (dnX1_add hX g1 (o_bdp h)) (fun _u μ1 h => ?_)
  refine s_aload_n (i := 0) dX8_bringTo_118 rfl rfl ?_
  refine s_iload dX8_bringTo_119 rfl ?_
  refine s_callVu (C := mX8_count) (As := [.int y0]) (rest := []) (L0 := [some (.ref (o_ad X a0)), some (.int y0)]) hX h0 clX8_157 dX8_bringTo_121 rfl rfl (Nat.le_of_ble_eq_true rfl) (Nat.le_of_ble_eq_true rfl) (dnX8_count hX h0 (o_bdp h)) (fun _u μ2 h => ?_)
  refine s_iinc (v := (x2 + 1)) dX8_bringTo_124 rfl rfl (Nat.le_of_ble_eq_true rfl) rfl ?_
  refine s_goto (tgt := 2) dX8_bringTo_127 rfl ?_
  refine s_mask [true, true, true, false, false] (L' := [some (.ref (o_ad X a0)), some (.int x1), some (.int (x2 + 1)), none, none]) rfl ?_
  exact kh (x2 + 1) _ (o_ret h)
set_option maxRecDepth 20000 in
theorem dnX8_bringTo_s2 {X : o_Cx} (hX : o_ok X) {d : Nat} {a0 : Nat} {x1 : Int32} {τ2 : Int32} {μ0 : o_Mem} {K : (Nat × (Int32)) → o_Mem → Prop} {Q : Option Value → o_Mem → Prop} (h0 : o_is X a0 (.inl 8)) (h : o_Post (fX8_bringTo_s2 (o_rf X) a0 x1 τ2 μ0) K) (kh : ∀ (τ2 : Int32) (μ : o_Mem), K (2, τ2) μ → o_Ev X (d + 2) mX8_bringTo 2 [some (.ref (o_ad X a0)), some (.int x1), some (.int τ2), none, none] [] μ Q) (k130 : ∀ (τ2 : Int32) (μ : o_Mem), K (130, τ2) μ → o_Ev X (d + 2) mX8_bringTo 130 [none, none, none, none, none] [] μ Q) : o_Ev X (d + 2) mX8_bringTo 2 [some (.ref (o_ad X a0)), some (.int x1), some (.int τ2), none, none] [] μ0 Q := by
  unfold fX8_bringTo_s2 at h
  refine s_iload_n (i := 2) dX8_bringTo_2 rfl rfl ?_
  refine s_aload_n (i := 0) dX8_bringTo_3 rfl rfl ?_
  refine s_getR hX h0 flX8_37 rfl dX8_bringTo_4 (fun (g1 : o_is X (o_rf X a0 15) (.inl 1)) => ?_)
  refine s_getI g1 flX8_79 rfl dX8_bringTo_7 ?_
  refine s_icmp_ge (tgt := 130) dX8_bringTo_10 rfl (fun c1 => ?_) (fun c1 => ?_)
  · have h := o_if_t c1 h
    refine s_mask [false, false, false, false, false] (L' := [none, none, none, none, none]) rfl ?_
    exact k130 0 _ (o_ret h)
  · have h := o_if_f c1 h
    refine s_aload_n (i := 0) dX8_bringTo_13 rfl rfl ?_
    refine s_getR hX h0 flX8_37 rfl dX8_bringTo_14 (fun (g2 : o_is X (o_rf X a0 15) (.inl 1)) => ?_)
    refine s_getR hX g2 flX8_138 rfl dX8_bringTo_17 (fun (g3 : o_is X (o_rf X (o_rf X a0 15) 2) (.inr (0, 12))) => ?_)
    refine s_iload_n (i := 2) dX8_bringTo_20 rfl rfl ?_
    have hc := o_ck_c h
    have h := o_ck_k h
    refine s_ialdK g3 hc rfl dX8_bringTo_21 ?_
    refine s_iload_n (i := 1) dX8_bringTo_22 rfl rfl ?_
    refine s_icmp_ne (tgt := 124) dX8_bringTo_23 rfl (fun c1 => ?_) (fun c1 => ?_)
    · have h := o_if_f c1 h
      refine s_iinc (v := (τ2 + 1)) dX8_bringTo_124 rfl rfl (Nat.le_of_ble_eq_true rfl) rfl ?_
      refine s_goto (tgt := 2) dX8_bringTo_127 rfl ?_
      refine s_mask [true, true, true, false, false] (L' := [some (.ref (o_ad X a0)), some (.int x1), some (.int (τ2 + 1)), none, none]) rfl ?_
      exact kh (τ2 + 1) _ (o_ret h)
    · have h := o_if_t c1 h
      refine s_aload_n (i := 0) dX8_bringTo_26 rfl rfl ?_
      refine s_aload_n (i := 0) dX8_bringTo_27 rfl rfl ?_
      refine s_aload_n (i := 0) dX8_bringTo_28 rfl rfl ?_
      refine s_getR hX h0 flX8_37 rfl dX8_bringTo_29 (fun (g4 : o_is X (o_rf X a0 15) (.inl 1)) => ?_)
      refine s_getR hX g4 flX8_141 rfl dX8_bringTo_32 (fun (g5 : o_is X (o_rf X (o_rf X a0 15) 1) (.inr (0, 12))) => ?_)
      refine s_iload_n (i := 2) dX8_bringTo_35 rfl rfl ?_
      have hc := o_ck_c h
      have h := o_ck_k h
      refine s_ialdK g5 hc rfl dX8_bringTo_36 ?_
      refine s_iload_n (i := 1) dX8_bringTo_37 rfl rfl ?_
      refine s_aload_n (i := 0) dX8_bringTo_38 rfl rfl ?_
      refine s_getR hX h0 flX8_37 rfl dX8_bringTo_39 (fun (g6 : o_is X (o_rf X a0 15) (.inl 1)) => ?_)
      refine s_getR hX g6 flX8_144 rfl dX8_bringTo_42 (fun (g7 : o_is X (o_rf X (o_rf X a0 15) 3) (.inr (0, 12))) => ?_)
      refine s_iload_n (i := 2) dX8_bringTo_45 rfl rfl ?_
      have hc := o_ck_c h
      have h := o_ck_k h
      refine s_ialdK g7 hc rfl dX8_bringTo_46 ?_
      refine s_aload_n (i := 0) dX8_bringTo_47 rfl rfl ?_
      refine s_getR hX h0 flX8_37 rfl dX8_bringTo_48 (fun (g8 : o_is X (o_rf X a0 15) (.inl 1)) => ?_)
      refine s_getR hX g8 flX8_147 rfl dX8_bringTo_51 (fun (g9 : o_is X (o_rf X (o_rf X a0 15) 4) (.inr (0, 12))) => ?_)
      refine s_iload_n (i := 2) dX8_bringTo_54 rfl rfl ?_
      have hc := o_ck_c h
      have h := o_ck_k h
      refine s_ialdK g9 hc rfl dX8_bringTo_55 ?_
      refine s_callVi (C := mX8_firstFit) (As := [.int (μ0.1 (o_rf X (o_rf X a0 15) 1) τ2.toNatClampNeg), .int x1, .int (μ0.1 (o_rf X (o_rf X a0 15) 3) τ2.toNatClampNeg), .int (μ0.1 (o_rf X (o_rf X a0 15) 4) τ2.toNatClampNeg)]) (rest := [.ref (o_ad X a0)]) (L0 := [some (.ref (o_ad X a0)), some (.int (μ0.1 (o_rf X (o_rf X a0 15) 1) τ2.toNatClampNeg)), some (.int x1), some (.int (μ0.1 (o_rf X (o_rf X a0 15) 3) τ2.toNatClampNeg)), some (.int (μ0.1 (o_rf X (o_rf X a0 15) 4) τ2.toNatClampNeg)), none]) hX h0 clX8_121 dX8_bringTo_56 rfl rfl (Nat.le_of_ble_eq_true rfl) (Nat.le_of_ble_eq_true rfl) (dnX8_firstFit hX h0 (o_bdp h)) (fun r1 μ1 h => ?_)
      refine s_callVi (C := mX8_strikeBy) (As := [.int r1]) (rest := []) (L0 := [some (.ref (o_ad X a0)), some (.int r1)]) hX h0 clX8_125 dX8_bringTo_59 rfl rfl (Nat.le_of_ble_eq_true rfl) (Nat.le_of_ble_eq_true rfl) (dnX8_strikeBy hX h0 (o_bdp h)) (fun r2 μ2 h => ?_)
      refine s_istore_n (i := 3) dX8_bringTo_62 rfl (Nat.le_of_ble_eq_true rfl) rfl ?_
      refine s_aload_n (i := 0) dX8_bringTo_63 rfl rfl ?_
      refine s_getI h0 flX8_63 rfl dX8_bringTo_64 ?_
      refine s_if_eq (tgt := 78) dX8_bringTo_67 rfl (fun c1 => ?_) (fun c1 => ?_)
      · have h := o_if_t c1 h
        refine s_iload_n (i := 3) dX8_bringTo_78 rfl rfl ?_
        refine s_mask [true, true, true, false, false] (L' := [some (.ref (o_ad X a0)), some (.int x1), some (.int τ2), none, none]) rfl ?_
        exact dnX8_bringTo_j79 hX h0 h kh k130
      · have h := o_if_f c1 h
        refine s_aload_n (i := 0) dX8_bringTo_70 rfl rfl ?_
        refine s_iload_n (i := 3) dX8_bringTo_71 rfl rfl ?_
        refine s_callVi (C := mX8_strikeBehind) (As := [.int r2]) (rest := []) (L0 := [some (.ref (o_ad X a0)), some (.int r2)]) hX h0 clX8_150 dX8_bringTo_72 rfl rfl (Nat.le_of_ble_eq_true rfl) (Nat.le_of_ble_eq_true rfl) (dnX8_strikeBehind hX h0 (o_bdp h)) (fun r3 μ3 h => ?_)
        refine s_goto (tgt := 79) dX8_bringTo_75 rfl ?_
        refine s_mask [true, true, true, false, false] (L' := [some (.ref (o_ad X a0)), some (.int x1), some (.int τ2), none, none]) rfl ?_
        exact dnX8_bringTo_j79 hX h0 h kh k130
set_option maxRecDepth 20000 in
theorem dnX8_bringTo {X : o_Cx} (hX : o_ok X) {d : Nat} {a0 : Nat} {x1 : Int32} {μ0 : o_Mem} {q : Unit → o_Mem → Prop} (h0 : o_is X a0 (.inl 8)) (h : o_Post (fX8_bringTo (o_rf X) a0 x1 μ0) q) : o_Ev X (d + 2) mX8_bringTo 0 [some (.ref (o_ad X a0)), some (.int x1), none, none, none] [] μ0 (o_QU q) := by
  unfold fX8_bringTo at h
  refine s_iconst dX8_bringTo_0 kI_0 ?_
  refine s_istore_n (i := 2) dX8_bringTo_1 rfl (Nat.le_of_ble_eq_true rfl) rfl ?_
  refine s_mask [true, true, true, false, false] (L' := [some (.ref (o_ad X a0)), some (.int x1), some (.int 0), none, none]) rfl ?_
  refine o_lp_ev (fun τ2 => [some (.ref (o_ad X a0)), some (.int x1), some (.int τ2), none, none]) (fun τ2 μ _K h kv ke2 => dnX8_bringTo_s2 hX h0 h kv (fun τ2 μ1 h => ?_)) o_fuel 0 μ0 (o_bdp h)
  · have h := o_if_t rfl (ke2 (130, τ2) μ1 (o_ne rfl) h)
    exact s_return rfl dX8_bringTo_130 ⟨rfl, o_ret h⟩
theorem dX8_answer_0 : decode cX8_answer 0 = .ok (.iload_n 1, 1) := by decide +kernel
theorem dX8_answer_1 : decode cX8_answer 1 = .ok (.bipush 6, 2) := by decide +kernel
theorem dX8_answer_3 : decode cX8_answer 3 = .ok (.imul, 1) := by decide +kernel
theorem dX8_answer_4 : decode cX8_answer 4 = .ok (.iload_n 2, 1) := by decide +kernel
theorem dX8_answer_5 : decode cX8_answer 5 = .ok (.iadd, 1) := by decide +kernel
theorem dX8_answer_6 : decode cX8_answer 6 = .ok (.istore_n 3, 1) := by decide +kernel
theorem dX8_answer_7 : decode cX8_answer 7 = .ok (.aload_n 0, 1) := by decide +kernel
theorem dX8_answer_8 : decode cX8_answer 8 = .ok (.getfield 28, 3) := by decide +kernel
theorem dX8_answer_11 : decode cX8_answer 11 = .ok (.iload_n 3, 1) := by decide +kernel
theorem dX8_answer_12 : decode cX8_answer 12 = .ok (.iaload, 1) := by decide +kernel
theorem dX8_answer_13 : decode cX8_answer 13 = .ok (.iconst (-1), 1) := by decide +kernel
theorem dX8_answer_14 : decode cX8_answer 14 = .ok (.if_icmp .eq 30, 3) := by decide +kernel
theorem dX8_answer_17 : decode cX8_answer 17 = .ok (.aload_n 0, 1) := by decide +kernel
theorem dX8_answer_18 : decode cX8_answer 18 = .ok (.getfield 37, 3) := by decide +kernel
theorem dX8_answer_21 : decode cX8_answer 21 = .ok (.iload_n 1, 1) := by decide +kernel
theorem dX8_answer_22 : decode cX8_answer 22 = .ok (.aload_n 0, 1) := by decide +kernel
theorem dX8_answer_23 : decode cX8_answer 23 = .ok (.getfield 28, 3) := by decide +kernel
theorem dX8_answer_26 : decode cX8_answer 26 = .ok (.iload_n 3, 1) := by decide +kernel
theorem dX8_answer_27 : decode cX8_answer 27 = .ok (.iaload, 1) := by decide +kernel
theorem dX8_answer_28 : decode cX8_answer 28 = .ok (.aload_n 0, 1) := by decide +kernel
theorem dX8_answer_29 : decode cX8_answer 29 = .ok (.getfield 31, 3) := by decide +kernel
theorem dX8_answer_32 : decode cX8_answer 32 = .ok (.iload_n 3, 1) := by decide +kernel
theorem dX8_answer_33 : decode cX8_answer 33 = .ok (.iaload, 1) := by decide +kernel
theorem dX8_answer_34 : decode cX8_answer 34 = .ok (.aload_n 0, 1) := by decide +kernel
theorem dX8_answer_35 : decode cX8_answer 35 = .ok (.getfield 22, 3) := by decide +kernel
theorem dX8_answer_38 : decode cX8_answer 38 = .ok (.iload_n 1, 1) := by decide +kernel
theorem dX8_answer_39 : decode cX8_answer 39 = .ok (.iaload, 1) := by decide +kernel
theorem dX8_answer_40 : decode cX8_answer 40 = .ok (.iconst (-1), 1) := by decide +kernel
theorem dX8_answer_41 : decode cX8_answer 41 = .ok (.invokevirtual 153, 3) := by decide +kernel
theorem dX8_answer_44 : decode cX8_answer 44 = .ok (.return_, 1) := by decide +kernel
noncomputable def fX8_answer (rf : Nat → Nat → Nat) (a0 : Nat) (x1 : Int32) (x2 : Int32) (μ0 : o_Mem) : Option (Unit × o_Mem) :=
  o_ck (0 ≤ (((x1 * 6) + x2)).toInt ∧ (((x1 * 6) + x2)).toInt < 36) <|
  if (μ0.1 (rf a0 13) (((x1 * 6) + x2)).toNatClampNeg) = (-1) then (
    some ((), μ0))
  else (
    o_ck (0 ≤ (((x1 * 6) + x2)).toInt ∧ (((x1 * 6) + x2)).toInt < 36) <|
    o_ck (0 ≤ (((x1 * 6) + x2)).toInt ∧ (((x1 * 6) + x2)).toInt < 36) <|
    o_ck (0 ≤ (x1).toInt ∧ (x1).toInt < 6) <|
    o_bd (fX1_add rf (rf a0 15) x1 (μ0.1 (rf a0 13) (((x1 * 6) + x2)).toNatClampNeg) (μ0.1 (rf a0 14) (((x1 * 6) + x2)).toNatClampNeg) (μ0.1 (rf a0 11) x1.toNatClampNeg) (-1) μ0) fun _u μ1 =>
    some ((), μ1))
set_option maxRecDepth 20000 in
theorem dnX8_answer {X : o_Cx} (hX : o_ok X) {d : Nat} {a0 : Nat} {x1 : Int32} {x2 : Int32} {μ0 : o_Mem} {q : Unit → o_Mem → Prop} (h0 : o_is X a0 (.inl 8)) (h : o_Post (fX8_answer (o_rf X) a0 x1 x2 μ0) q) : o_Ev X (d + 1) mX8_answer 0 [some (.ref (o_ad X a0)), some (.int x1), some (.int x2), none] [] μ0 (o_QU q) := by
  unfold fX8_answer at h
  refine s_iload_n (i := 1) dX8_answer_0 rfl rfl ?_
  refine s_bipush dX8_answer_1 kB_6 ?_
  refine s_imul dX8_answer_3 ?_
  refine s_iload_n (i := 2) dX8_answer_4 rfl rfl ?_
  refine s_iadd dX8_answer_5 ?_
  refine s_istore_n (i := 3) dX8_answer_6 rfl (Nat.le_of_ble_eq_true rfl) rfl ?_
  refine s_aload_n (i := 0) dX8_answer_7 rfl rfl ?_
  refine s_getR hX h0 flX8_28 rfl dX8_answer_8 (fun (g1 : o_is X (o_rf X a0 13) (.inr (0, 36))) => ?_)
  refine s_iload_n (i := 3) dX8_answer_11 rfl rfl ?_
  have hc := o_ck_c h
  have h := o_ck_k h
  refine s_ialdK g1 hc rfl dX8_answer_12 ?_
  refine s_iconst dX8_answer_13 kI_m1 ?_
  refine s_icmp_eq (tgt := 44) dX8_answer_14 rfl (fun c1 => ?_) (fun c1 => ?_)
  · have h := o_if_t c1 h
    exact s_return rfl dX8_answer_44 ⟨rfl, o_ret h⟩
  · have h := o_if_f c1 h
    refine s_aload_n (i := 0) dX8_answer_17 rfl rfl ?_
    refine s_getR hX h0 flX8_37 rfl dX8_answer_18 (fun (g2 : o_is X (o_rf X a0 15) (.inl 1)) => ?_)
    refine s_iload_n (i := 1) dX8_answer_21 rfl rfl ?_
    refine s_aload_n (i := 0) dX8_answer_22 rfl rfl ?_
    refine s_getR hX h0 flX8_28 rfl dX8_answer_23 (fun (g3 : o_is X (o_rf X a0 13) (.inr (0, 36))) => ?_)
    refine s_iload_n (i := 3) dX8_answer_26 rfl rfl ?_
    have hc := o_ck_c h
    have h := o_ck_k h
    refine s_ialdK g3 hc rfl dX8_answer_27 ?_
    refine s_aload_n (i := 0) dX8_answer_28 rfl rfl ?_
    refine s_getR hX h0 flX8_31 rfl dX8_answer_29 (fun (g4 : o_is X (o_rf X a0 14) (.inr (0, 36))) => ?_)
    refine s_iload_n (i := 3) dX8_answer_32 rfl rfl ?_
    have hc := o_ck_c h
    have h := o_ck_k h
    refine s_ialdK g4 hc rfl dX8_answer_33 ?_
    refine s_aload_n (i := 0) dX8_answer_34 rfl rfl ?_
    refine s_getR hX h0 flX8_22 rfl dX8_answer_35 (fun (g5 : o_is X (o_rf X a0 11) (.inr (0, 6))) => ?_)
    refine s_iload_n (i := 1) dX8_answer_38 rfl rfl ?_
    have hc := o_ck_c h
    have h := o_ck_k h
    refine s_ialdK g5 hc rfl dX8_answer_39 ?_
    refine s_iconst dX8_answer_40 kI_m1 ?_
    refine s_callVu (C := mX1_add) (As := [.int x1, .int (μ0.1 (o_rf X a0 13) (((x1 * 6) + x2)).toNatClampNeg), .int (μ0.1 (o_rf X a0 14) (((x1 * 6) + x2)).toNatClampNeg), .int (μ0.1 (o_rf X a0 11) x1.toNatClampNeg), .int (-1)]) (rest := []) (L0 := [some (.ref (o_ad X (o_rf X a0 15))), some (.int x1), some (.int (μ0.1 (o_rf X a0 13) (((x1 * 6) + x2)).toNatClampNeg)), some (.int (μ0.1 (o_rf X a0 14) (((x1 * 6) + x2)).toNatClampNeg)), some (.int (μ0.1 (o_rf X a0 11) x1.toNatClampNeg)), some (.int (-1))]) hX g2 clX8_153 dX8_answer_41 rfl rfl (Nat.le_of_ble_eq_true rfl) (Nat.le_of_ble_eq_true rfl) (dnX1_add hX g2 (o_bdp h)) (fun _u μ1 h => ?_)
    exact s_return rfl dX8_answer_44 ⟨rfl, o_ret h⟩
theorem dX8_answerAll_0 : decode cX8_answerAll 0 = .ok (.iconst 0, 1) := by decide +kernel
theorem dX8_answerAll_1 : decode cX8_answerAll 1 = .ok (.istore_n 1, 1) := by decide +kernel
theorem dX8_answerAll_2 : decode cX8_answerAll 2 = .ok (.iload_n 1, 1) := by decide +kernel
theorem dX8_answerAll_3 : decode cX8_answerAll 3 = .ok (.aload_n 0, 1) := by decide +kernel
theorem dX8_answerAll_4 : decode cX8_answerAll 4 = .ok (.getfield 41, 3) := by decide +kernel
theorem dX8_answerAll_7 : decode cX8_answerAll 7 = .ok (.getfield 79, 3) := by decide +kernel
theorem dX8_answerAll_10 : decode cX8_answerAll 10 = .ok (.if_icmp .ge 44, 3) := by decide +kernel
theorem dX8_answerAll_13 : decode cX8_answerAll 13 = .ok (.aload_n 0, 1) := by decide +kernel
theorem dX8_answerAll_14 : decode cX8_answerAll 14 = .ok (.getfield 41, 3) := by decide +kernel
theorem dX8_answerAll_17 : decode cX8_answerAll 17 = .ok (.getfield 160, 3) := by decide +kernel
theorem dX8_answerAll_20 : decode cX8_answerAll 20 = .ok (.iload_n 1, 1) := by decide +kernel
theorem dX8_answerAll_21 : decode cX8_answerAll 21 = .ok (.iaload, 1) := by decide +kernel
theorem dX8_answerAll_22 : decode cX8_answerAll 22 = .ok (.iconst (-1), 1) := by decide +kernel
theorem dX8_answerAll_23 : decode cX8_answerAll 23 = .ok (.if_icmp .eq 25, 3) := by decide +kernel
theorem dX8_answerAll_26 : decode cX8_answerAll 26 = .ok (.aload_n 0, 1) := by decide +kernel
theorem dX8_answerAll_27 : decode cX8_answerAll 27 = .ok (.aload_n 0, 1) := by decide +kernel
theorem dX8_answerAll_28 : decode cX8_answerAll 28 = .ok (.getfield 41, 3) := by decide +kernel
theorem dX8_answerAll_31 : decode cX8_answerAll 31 = .ok (.getfield 138, 3) := by decide +kernel
theorem dX8_answerAll_34 : decode cX8_answerAll 34 = .ok (.iload_n 1, 1) := by decide +kernel
theorem dX8_answerAll_35 : decode cX8_answerAll 35 = .ok (.iaload, 1) := by decide +kernel
theorem dX8_answerAll_36 : decode cX8_answerAll 36 = .ok (.aload_n 0, 1) := by decide +kernel
theorem dX8_answerAll_37 : decode cX8_answerAll 37 = .ok (.getfield 41, 3) := by decide +kernel
theorem dX8_answerAll_40 : decode cX8_answerAll 40 = .ok (.getfield 160, 3) := by decide +kernel
theorem dX8_answerAll_43 : decode cX8_answerAll 43 = .ok (.iload_n 1, 1) := by decide +kernel
theorem dX8_answerAll_44 : decode cX8_answerAll 44 = .ok (.iaload, 1) := by decide +kernel
theorem dX8_answerAll_45 : decode cX8_answerAll 45 = .ok (.invokevirtual 163, 3) := by decide +kernel
theorem dX8_answerAll_48 : decode cX8_answerAll 48 = .ok (.iinc 1 1, 3) := by decide +kernel
theorem dX8_answerAll_51 : decode cX8_answerAll 51 = .ok (.goto (-49), 3) := by decide +kernel
theorem dX8_answerAll_54 : decode cX8_answerAll 54 = .ok (.return_, 1) := by decide +kernel
noncomputable def fX8_answerAll_s2 (rf : Nat → Nat → Nat) (a0 : Nat) (τ2 : Int32) (μ0 : o_Mem) : Option ((Nat × (Int32)) × o_Mem) :=
  if (μ0.1 (rf a0 16) 0) ≤ τ2 then (
    some ((54, 0), μ0))
  else (
    o_ck (0 ≤ (τ2).toInt ∧ (τ2).toInt < 12) <|
    if (μ0.1 (rf (rf a0 16) 5) τ2.toNatClampNeg) = (-1) then (
      some ((2, (τ2 + 1)), μ0))
    else (
      o_ck (0 ≤ (τ2).toInt ∧ (τ2).toInt < 12) <|
      o_ck (0 ≤ (τ2).toInt ∧ (τ2).toInt < 12) <|
      o_bd (fX8_answer rf a0 (μ0.1 (rf (rf a0 16) 2) τ2.toNatClampNeg) (μ0.1 (rf (rf a0 16) 5) τ2.toNatClampNeg) μ0) fun _u μ1 =>
      some ((2, (τ2 + 1)), μ1)))
noncomputable def fX8_answerAll (rf : Nat → Nat → Nat) (a0 : Nat) (μ0 : o_Mem) : Option (Unit × o_Mem) :=
  o_bd (o_lp 2 (fX8_answerAll_s2 rf a0) o_fuel (0 : Int32) μ0) fun ex1 μ1 =>
  if ex1.1 = 54 then (
    some ((), μ1))
  else
    none
set_option maxRecDepth 20000 in
theorem dnX8_answerAll_s2 {X : o_Cx} (hX : o_ok X) {d : Nat} {a0 : Nat} {τ2 : Int32} {μ0 : o_Mem} {K : (Nat × (Int32)) → o_Mem → Prop} {Q : Option Value → o_Mem → Prop} (h0 : o_is X a0 (.inl 8)) (h : o_Post (fX8_answerAll_s2 (o_rf X) a0 τ2 μ0) K) (kh : ∀ (τ2 : Int32) (μ : o_Mem), K (2, τ2) μ → o_Ev X (d + 2) mX8_answerAll 2 [some (.ref (o_ad X a0)), some (.int τ2)] [] μ Q) (k54 : ∀ (τ2 : Int32) (μ : o_Mem), K (54, τ2) μ → o_Ev X (d + 2) mX8_answerAll 54 [none, none] [] μ Q) : o_Ev X (d + 2) mX8_answerAll 2 [some (.ref (o_ad X a0)), some (.int τ2)] [] μ0 Q := by
  unfold fX8_answerAll_s2 at h
  refine s_iload_n (i := 1) dX8_answerAll_2 rfl rfl ?_
  refine s_aload_n (i := 0) dX8_answerAll_3 rfl rfl ?_
  refine s_getR hX h0 flX8_41 rfl dX8_answerAll_4 (fun (g1 : o_is X (o_rf X a0 16) (.inl 1)) => ?_)
  refine s_getI g1 flX8_79 rfl dX8_answerAll_7 ?_
  refine s_icmp_ge (tgt := 54) dX8_answerAll_10 rfl (fun c1 => ?_) (fun c1 => ?_)
  · have h := o_if_t c1 h
    refine s_mask [false, false] (L' := [none, none]) rfl ?_
    exact k54 0 _ (o_ret h)
  · have h := o_if_f c1 h
    refine s_aload_n (i := 0) dX8_answerAll_13 rfl rfl ?_
    refine s_getR hX h0 flX8_41 rfl dX8_answerAll_14 (fun (g2 : o_is X (o_rf X a0 16) (.inl 1)) => ?_)
    refine s_getR hX g2 flX8_160 rfl dX8_answerAll_17 (fun (g3 : o_is X (o_rf X (o_rf X a0 16) 5) (.inr (0, 12))) => ?_)
    refine s_iload_n (i := 1) dX8_answerAll_20 rfl rfl ?_
    have hc := o_ck_c h
    have h := o_ck_k h
    refine s_ialdK g3 hc rfl dX8_answerAll_21 ?_
    refine s_iconst dX8_answerAll_22 kI_m1 ?_
    refine s_icmp_eq (tgt := 48) dX8_answerAll_23 rfl (fun c1 => ?_) (fun c1 => ?_)
    · have h := o_if_t c1 h
      refine s_iinc (v := (τ2 + 1)) dX8_answerAll_48 rfl rfl (Nat.le_of_ble_eq_true rfl) rfl ?_
      refine s_goto (tgt := 2) dX8_answerAll_51 rfl ?_
      refine s_mask [true, true] (L' := [some (.ref (o_ad X a0)), some (.int (τ2 + 1))]) rfl ?_
      exact kh (τ2 + 1) _ (o_ret h)
    · have h := o_if_f c1 h
      refine s_aload_n (i := 0) dX8_answerAll_26 rfl rfl ?_
      refine s_aload_n (i := 0) dX8_answerAll_27 rfl rfl ?_
      refine s_getR hX h0 flX8_41 rfl dX8_answerAll_28 (fun (g4 : o_is X (o_rf X a0 16) (.inl 1)) => ?_)
      refine s_getR hX g4 flX8_138 rfl dX8_answerAll_31 (fun (g5 : o_is X (o_rf X (o_rf X a0 16) 2) (.inr (0, 12))) => ?_)
      refine s_iload_n (i := 1) dX8_answerAll_34 rfl rfl ?_
      have hc := o_ck_c h
      have h := o_ck_k h
      refine s_ialdK g5 hc rfl dX8_answerAll_35 ?_
      refine s_aload_n (i := 0) dX8_answerAll_36 rfl rfl ?_
      refine s_getR hX h0 flX8_41 rfl dX8_answerAll_37 (fun (g6 : o_is X (o_rf X a0 16) (.inl 1)) => ?_)
      refine s_getR hX g6 flX8_160 rfl dX8_answerAll_40 (fun (g7 : o_is X (o_rf X (o_rf X a0 16) 5) (.inr (0, 12))) => ?_)
      refine s_iload_n (i := 1) dX8_answerAll_43 rfl rfl ?_
      have hc := o_ck_c h
      have h := o_ck_k h
      refine s_ialdK g7 hc rfl dX8_answerAll_44 ?_
      refine s_callVu (C := mX8_answer) (As := [.int (μ0.1 (o_rf X (o_rf X a0 16) 2) τ2.toNatClampNeg), .int (μ0.1 (o_rf X (o_rf X a0 16) 5) τ2.toNatClampNeg)]) (rest := []) (L0 := [some (.ref (o_ad X a0)), some (.int (μ0.1 (o_rf X (o_rf X a0 16) 2) τ2.toNatClampNeg)), some (.int (μ0.1 (o_rf X (o_rf X a0 16) 5) τ2.toNatClampNeg)), none]) hX h0 clX8_163 dX8_answerAll_45 rfl rfl (Nat.le_of_ble_eq_true rfl) (Nat.le_of_ble_eq_true rfl) (dnX8_answer hX h0 (o_bdp h)) (fun _u μ1 h => ?_)
      refine s_iinc (v := (τ2 + 1)) dX8_answerAll_48 rfl rfl (Nat.le_of_ble_eq_true rfl) rfl ?_
      refine s_goto (tgt := 2) dX8_answerAll_51 rfl ?_
      refine s_mask [true, true] (L' := [some (.ref (o_ad X a0)), some (.int (τ2 + 1))]) rfl ?_
      exact kh (τ2 + 1) _ (o_ret h)
set_option maxRecDepth 20000 in
theorem dnX8_answerAll {X : o_Cx} (hX : o_ok X) {d : Nat} {a0 : Nat} {μ0 : o_Mem} {q : Unit → o_Mem → Prop} (h0 : o_is X a0 (.inl 8)) (h : o_Post (fX8_answerAll (o_rf X) a0 μ0) q) : o_Ev X (d + 2) mX8_answerAll 0 [some (.ref (o_ad X a0)), none] [] μ0 (o_QU q) := by
  unfold fX8_answerAll at h
  refine s_iconst dX8_answerAll_0 kI_0 ?_
  refine s_istore_n (i := 1) dX8_answerAll_1 rfl (Nat.le_of_ble_eq_true rfl) rfl ?_
  refine s_mask [true, true] (L' := [some (.ref (o_ad X a0)), some (.int 0)]) rfl ?_
  refine o_lp_ev (fun τ2 => [some (.ref (o_ad X a0)), some (.int τ2)]) (fun τ2 μ _K h kv ke2 => dnX8_answerAll_s2 hX h0 h kv (fun τ2 μ1 h => ?_)) o_fuel 0 μ0 (o_bdp h)
  · have h := o_if_t rfl (ke2 (54, τ2) μ1 (o_ne rfl) h)
    exact s_return rfl dX8_answerAll_54 ⟨rfl, o_ret h⟩
theorem dX8_goDays_0 : decode cX8_goDays 0 = .ok (.aload_n 0, 1) := by decide +kernel
theorem dX8_goDays_1 : decode cX8_goDays 1 = .ok (.getfield 67, 3) := by decide +kernel
theorem dX8_goDays_4 : decode cX8_goDays 4 = .ok (.istore_n 2, 1) := by decide +kernel
theorem dX8_goDays_5 : decode cX8_goDays 5 = .ok (.iconst 0, 1) := by decide +kernel
theorem dX8_goDays_6 : decode cX8_goDays 6 = .ok (.istore_n 3, 1) := by decide +kernel
theorem dX8_goDays_7 : decode cX8_goDays 7 = .ok (.iload_n 3, 1) := by decide +kernel
theorem dX8_goDays_8 : decode cX8_goDays 8 = .ok (.iload_n 1, 1) := by decide +kernel
theorem dX8_goDays_9 : decode cX8_goDays 9 = .ok (.if_icmp .ge 63, 3) := by decide +kernel
theorem dX8_goDays_12 : decode cX8_goDays 12 = .ok (.aload_n 0, 1) := by decide +kernel
theorem dX8_goDays_13 : decode cX8_goDays 13 = .ok (.getfield 41, 3) := by decide +kernel
theorem dX8_goDays_16 : decode cX8_goDays 16 = .ok (.iconst 0, 1) := by decide +kernel
theorem dX8_goDays_17 : decode cX8_goDays 17 = .ok (.putfield 79, 3) := by decide +kernel
theorem dX8_goDays_20 : decode cX8_goDays 20 = .ok (.iconst 0, 1) := by decide +kernel
theorem dX8_goDays_21 : decode cX8_goDays 21 = .ok (.istore 4, 2) := by decide +kernel
theorem dX8_goDays_23 : decode cX8_goDays 23 = .ok (.iload 4, 2) := by decide +kernel
theorem dX8_goDays_25 : decode cX8_goDays 25 = .ok (.aload_n 0, 1) := by decide +kernel
theorem dX8_goDays_26 : decode cX8_goDays 26 = .ok (.getfield 54, 3) := by decide +kernel
theorem dX8_goDays_29 : decode cX8_goDays 29 = .ok (.if_icmp .ge 15, 3) := by decide +kernel
theorem dX8_goDays_32 : decode cX8_goDays 32 = .ok (.aload_n 0, 1) := by decide +kernel
theorem dX8_goDays_33 : decode cX8_goDays 33 = .ok (.iload 4, 2) := by decide +kernel
theorem dX8_goDays_35 : decode cX8_goDays 35 = .ok (.invokevirtual 131, 3) := by decide +kernel
theorem dX8_goDays_38 : decode cX8_goDays 38 = .ok (.iinc 4 1, 3) := by decide +kernel
theorem dX8_goDays_41 : decode cX8_goDays 41 = .ok (.goto (-18), 3) := by decide +kernel
theorem dX8_goDays_44 : decode cX8_goDays 44 = .ok (.aload_n 0, 1) := by decide +kernel
theorem dX8_goDays_45 : decode cX8_goDays 45 = .ok (.getfield 37, 3) := by decide +kernel
theorem dX8_goDays_48 : decode cX8_goDays 48 = .ok (.iconst 0, 1) := by decide +kernel
theorem dX8_goDays_49 : decode cX8_goDays 49 = .ok (.putfield 79, 3) := by decide +kernel
theorem dX8_goDays_52 : decode cX8_goDays 52 = .ok (.aload_n 0, 1) := by decide +kernel
theorem dX8_goDays_53 : decode cX8_goDays 53 = .ok (.invokevirtual 135, 3) := by decide +kernel
theorem dX8_goDays_56 : decode cX8_goDays 56 = .ok (.aload_n 0, 1) := by decide +kernel
theorem dX8_goDays_57 : decode cX8_goDays 57 = .ok (.dup, 1) := by decide +kernel
theorem dX8_goDays_58 : decode cX8_goDays 58 = .ok (.getfield 60, 3) := by decide +kernel
theorem dX8_goDays_61 : decode cX8_goDays 61 = .ok (.iconst 1, 1) := by decide +kernel
theorem dX8_goDays_62 : decode cX8_goDays 62 = .ok (.iadd, 1) := by decide +kernel
theorem dX8_goDays_63 : decode cX8_goDays 63 = .ok (.putfield 60, 3) := by decide +kernel
theorem dX8_goDays_66 : decode cX8_goDays 66 = .ok (.iinc 3 1, 3) := by decide +kernel
theorem dX8_goDays_69 : decode cX8_goDays 69 = .ok (.goto (-62), 3) := by decide +kernel
theorem dX8_goDays_72 : decode cX8_goDays 72 = .ok (.aload_n 0, 1) := by decide +kernel
theorem dX8_goDays_73 : decode cX8_goDays 73 = .ok (.getfield 67, 3) := by decide +kernel
theorem dX8_goDays_76 : decode cX8_goDays 76 = .ok (.iload_n 2, 1) := by decide +kernel
theorem dX8_goDays_77 : decode cX8_goDays 77 = .ok (.isub, 1) := by decide +kernel
theorem dX8_goDays_78 : decode cX8_goDays 78 = .ok (.ireturn, 1) := by decide +kernel
noncomputable def fX8_goDays_s23 (rf : Nat → Nat → Nat) (a0 : Nat) (x1 : Int32) (x2 : Int32) (x3 : Int32) (τ23 : Int32) (μ0 : o_Mem) : Option ((Nat × (Int32)) × o_Mem) :=
  if (μ0.1 a0 2) ≤ τ23 then (
    some ((44, 0), μ0))
  else (
    o_bd (fX8_bringTo rf a0 τ23 μ0) fun _u μ1 =>
    some ((23, (τ23 + 1)), μ1))
noncomputable def fX8_goDays_s7 (rf : Nat → Nat → Nat) (a0 : Nat) (x1 : Int32) (x2 : Int32) (τ7 : Int32) (μ0 : o_Mem) : Option ((Nat × (Int32)) × o_Mem) :=
  if x1 ≤ τ7 then (
    some ((72, 0), μ0))
  else (
    o_seq (o_wI μ0 (rf a0 16) 0 0) fun μ1 =>
    o_bd (o_lp 23 (fX8_goDays_s23 rf a0 x1 x2 τ7) o_fuel (0 : Int32) μ1) fun ex2 μ2 =>
    if ex2.1 = 44 then (
      o_seq (o_wI μ2 (rf a0 15) 0 0) fun μ3 =>
      o_bd (fX8_answerAll rf a0 μ3) fun _u μ4 =>
      o_seq (o_wI μ4 a0 5 ((μ4.1 a0 5) + 1)) fun μ5 =>
      some ((7, (τ7 + 1)), μ5))
    else
      none)
noncomputable def fX8_goDays (rf : Nat → Nat → Nat) (a0 : Nat) (x1 : Int32) (μ0 : o_Mem) : Option (Int32 × o_Mem) :=
  o_bd (o_lp 7 (fX8_goDays_s7 rf a0 x1 (μ0.1 a0 7)) o_fuel (0 : Int32) μ0) fun ex1 μ1 =>
  if ex1.1 = 72 then (
    some (((μ1.1 a0 7) - (μ0.1 a0 7)), μ1))
  else
    none
set_option maxRecDepth 20000 in
theorem dnX8_goDays_s23 {X : o_Cx} (hX : o_ok X) {d : Nat} {a0 : Nat} {x1 : Int32} {x2 : Int32} {x3 : Int32} {τ23 : Int32} {μ0 : o_Mem} {K : (Nat × (Int32)) → o_Mem → Prop} {Q : Option Value → o_Mem → Prop} (h0 : o_is X a0 (.inl 8)) (h : o_Post (fX8_goDays_s23 (o_rf X) a0 x1 x2 x3 τ23 μ0) K) (kh : ∀ (τ23 : Int32) (μ : o_Mem), K (23, τ23) μ → o_Ev X (d + 3) mX8_goDays 23 [some (.ref (o_ad X a0)), some (.int x1), some (.int x2), some (.int x3), some (.int τ23)] [] μ Q) (k44 : ∀ (τ23 : Int32) (μ : o_Mem), K (44, τ23) μ → o_Ev X (d + 3) mX8_goDays 44 [some (.ref (o_ad X a0)), some (.int x1), some (.int x2), some (.int x3), none] [] μ Q) : o_Ev X (d + 3) mX8_goDays 23 [some (.ref (o_ad X a0)), some (.int x1), some (.int x2), some (.int x3), some (.int τ23)] [] μ0 Q := by
  unfold fX8_goDays_s23 at h
  refine s_iload dX8_goDays_23 rfl ?_
  refine s_aload_n (i := 0) dX8_goDays_25 rfl rfl ?_
  refine s_getI h0 flX8_54 rfl dX8_goDays_26 ?_
  refine s_icmp_ge (tgt := 44) dX8_goDays_29 rfl (fun c1 => ?_) (fun c1 => ?_)
  · have h := o_if_t c1 h
    refine s_mask [true, true, true, true, false] (L' := [some (.ref (o_ad X a0)), some (.int x1), some (.int x2), some (.int x3), none]) rfl ?_
    exact k44 0 _ (o_ret h)
  · have h := o_if_f c1 h
    refine s_aload_n (i := 0) dX8_goDays_32 rfl rfl ?_
    refine s_iload dX8_goDays_33 rfl ?_
    refine s_callVu (C := mX8_bringTo) (As := [.int τ23]) (rest := []) (L0 := [some (.ref (o_ad X a0)), some (.int τ23), none, none, none]) hX h0 clX8_131 dX8_goDays_35 rfl rfl (Nat.le_of_ble_eq_true rfl) (Nat.le_of_ble_eq_true rfl) (dnX8_bringTo hX h0 (o_bdp h)) (fun _u μ1 h => ?_)
    refine s_iinc (v := (τ23 + 1)) dX8_goDays_38 rfl rfl (Nat.le_of_ble_eq_true rfl) rfl ?_
    refine s_goto (tgt := 23) dX8_goDays_41 rfl ?_
    refine s_mask [true, true, true, true, true] (L' := [some (.ref (o_ad X a0)), some (.int x1), some (.int x2), some (.int x3), some (.int (τ23 + 1))]) rfl ?_
    exact kh (τ23 + 1) _ (o_ret h)
set_option maxRecDepth 20000 in
theorem dnX8_goDays_s7 {X : o_Cx} (hX : o_ok X) {d : Nat} {a0 : Nat} {x1 : Int32} {x2 : Int32} {τ7 : Int32} {μ0 : o_Mem} {K : (Nat × (Int32)) → o_Mem → Prop} {Q : Option Value → o_Mem → Prop} (h0 : o_is X a0 (.inl 8)) (h : o_Post (fX8_goDays_s7 (o_rf X) a0 x1 x2 τ7 μ0) K) (kh : ∀ (τ7 : Int32) (μ : o_Mem), K (7, τ7) μ → o_Ev X (d + 3) mX8_goDays 7 [some (.ref (o_ad X a0)), some (.int x1), some (.int x2), some (.int τ7), none] [] μ Q) (k72 : ∀ (τ7 : Int32) (μ : o_Mem), K (72, τ7) μ → o_Ev X (d + 3) mX8_goDays 72 [some (.ref (o_ad X a0)), none, some (.int x2), none, none] [] μ Q) : o_Ev X (d + 3) mX8_goDays 7 [some (.ref (o_ad X a0)), some (.int x1), some (.int x2), some (.int τ7), none] [] μ0 Q := by
  unfold fX8_goDays_s7 at h
  refine s_iload_n (i := 3) dX8_goDays_7 rfl rfl ?_
  refine s_iload_n (i := 1) dX8_goDays_8 rfl rfl ?_
  refine s_icmp_ge (tgt := 72) dX8_goDays_9 rfl (fun c1 => ?_) (fun c1 => ?_)
  · have h := o_if_t c1 h
    refine s_mask [true, false, true, false, false] (L' := [some (.ref (o_ad X a0)), none, some (.int x2), none, none]) rfl ?_
    exact k72 0 _ (o_ret h)
  · have h := o_if_f c1 h
    refine s_aload_n (i := 0) dX8_goDays_12 rfl rfl ?_
    refine s_getR hX h0 flX8_41 rfl dX8_goDays_13 (fun (g1 : o_is X (o_rf X a0 16) (.inl 1)) => ?_)
    refine s_iconst dX8_goDays_16 kI_0 ?_
    refine s_putI hX g1 fwX8_79 rfl dX8_goDays_17 (o_gen h (fun μ1 h => ?_))
    refine s_iconst dX8_goDays_20 kI_0 ?_
    refine s_istore dX8_goDays_21 (Nat.le_of_ble_eq_true rfl) rfl ?_
    refine s_mask [true, true, true, true, true] (L' := [some (.ref (o_ad X a0)), some (.int x1), some (.int x2), some (.int τ7), some (.int 0)]) rfl ?_
    refine o_lp_ev (fun τ23 => [some (.ref (o_ad X a0)), some (.int x1), some (.int x2), some (.int τ7), some (.int τ23)]) (fun τ23 μ _K h kv ke23 => dnX8_goDays_s23 hX h0 h kv (fun τ23 μ2 h => ?_)) o_fuel 0 μ1 (o_bdp h)
    · have h := o_if_t rfl (ke23 (44, τ23) μ2 (o_ne rfl) h)
      refine s_aload_n (i := 0) dX8_goDays_44 rfl rfl ?_
      refine s_getR hX h0 flX8_37 rfl dX8_goDays_45 (fun (g2 : o_is X (o_rf X a0 15) (.inl 1)) => ?_)
      refine s_iconst dX8_goDays_48 kI_0 ?_
      refine s_putI hX g2 fwX8_79 rfl dX8_goDays_49 (o_gen h (fun μ3 h => ?_))
      refine s_aload_n (i := 0) dX8_goDays_52 rfl rfl ?_
      refine s_callVu (C := mX8_answerAll) (As := []) (rest := []) (L0 := [some (.ref (o_ad X a0)), none]) hX h0 clX8_135 dX8_goDays_53 rfl rfl (Nat.le_of_ble_eq_true rfl) (Nat.le_of_ble_eq_true rfl) (dnX8_answerAll hX h0 (o_bdp h)) (fun _u μ4 h => ?_)
      refine s_aload_n (i := 0) dX8_goDays_56 rfl rfl ?_
      refine s_dup dX8_goDays_57 rfl ?_
      refine s_getI h0 flX8_60 rfl dX8_goDays_58 ?_
      refine s_iconst dX8_goDays_61 kI_1 ?_
      refine s_iadd dX8_goDays_62 ?_
      refine s_putI hX h0 fwX8_60 rfl dX8_goDays_63 (o_gen h (fun μ5 h => ?_))
      refine s_iinc (v := (τ7 + 1)) dX8_goDays_66 rfl rfl (Nat.le_of_ble_eq_true rfl) rfl ?_
      refine s_goto (tgt := 7) dX8_goDays_69 rfl ?_
      refine s_mask [true, true, true, true, false] (L' := [some (.ref (o_ad X a0)), some (.int x1), some (.int x2), some (.int (τ7 + 1)), none]) rfl ?_
      exact kh (τ7 + 1) _ (o_ret h)
set_option maxRecDepth 20000 in
theorem dnX8_goDays {X : o_Cx} (hX : o_ok X) {d : Nat} {a0 : Nat} {x1 : Int32} {μ0 : o_Mem} {q : Int32 → o_Mem → Prop} (h0 : o_is X a0 (.inl 8)) (h : o_Post (fX8_goDays (o_rf X) a0 x1 μ0) q) : o_Ev X (d + 3) mX8_goDays 0 [some (.ref (o_ad X a0)), some (.int x1), none, none, none] [] μ0 (o_QI q) := by
  unfold fX8_goDays at h
  refine s_aload_n (i := 0) dX8_goDays_0 rfl rfl ?_
  refine s_getI h0 flX8_67 rfl dX8_goDays_1 ?_
  refine s_istore_n (i := 2) dX8_goDays_4 rfl (Nat.le_of_ble_eq_true rfl) rfl ?_
  refine s_iconst dX8_goDays_5 kI_0 ?_
  refine s_istore_n (i := 3) dX8_goDays_6 rfl (Nat.le_of_ble_eq_true rfl) rfl ?_
  refine s_mask [true, true, true, true, false] (L' := [some (.ref (o_ad X a0)), some (.int x1), some (.int (μ0.1 a0 7)), some (.int 0), none]) rfl ?_
  refine o_lp_ev (fun τ7 => [some (.ref (o_ad X a0)), some (.int x1), some (.int (μ0.1 a0 7)), some (.int τ7), none]) (fun τ7 μ _K h kv ke7 => dnX8_goDays_s7 hX h0 h kv (fun τ7 μ1 h => ?_)) o_fuel 0 μ0 (o_bdp h)
  · have h := o_if_t rfl (ke7 (72, τ7) μ1 (o_ne rfl) h)
    refine s_aload_n (i := 0) dX8_goDays_72 rfl rfl ?_
    refine s_getI h0 flX8_67 rfl dX8_goDays_73 ?_
    refine s_iload_n (i := 2) dX8_goDays_76 rfl rfl ?_
    refine s_isub dX8_goDays_77 ?_
    exact s_ireturn rfl dX8_goDays_78 ⟨_, rfl, o_ret h⟩
