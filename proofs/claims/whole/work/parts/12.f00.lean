theorem dX0_takenThen_0 : decode cX0_takenThen 0 = .ok (.iload_n 1, 1) := by decide +kernel
theorem dX0_takenThen_1 : decode cX0_takenThen 1 = .ok (.iconst 2, 1) := by decide +kernel
theorem dX0_takenThen_2 : decode cX0_takenThen 2 = .ok (.irem, 1) := by decide +kernel
theorem dX0_takenThen_3 : decode cX0_takenThen 3 = .ok (.ifCond .ne 13, 3) := by decide +kernel
theorem dX0_takenThen_6 : decode cX0_takenThen 6 = .ok (.aload_n 0, 1) := by decide +kernel
theorem dX0_takenThen_7 : decode cX0_takenThen 7 = .ok (.getfield 9, 3) := by decide +kernel
theorem dX0_takenThen_10 : decode cX0_takenThen 10 = .ok (.iload 4, 2) := by decide +kernel
theorem dX0_takenThen_12 : decode cX0_takenThen 12 = .ok (.iaload, 1) := by decide +kernel
theorem dX0_takenThen_13 : decode cX0_takenThen 13 = .ok (.goto 11, 3) := by decide +kernel
theorem dX0_takenThen_16 : decode cX0_takenThen 16 = .ok (.aload_n 0, 1) := by decide +kernel
theorem dX0_takenThen_17 : decode cX0_takenThen 17 = .ok (.getfield 15, 3) := by decide +kernel
theorem dX0_takenThen_20 : decode cX0_takenThen 20 = .ok (.iload 4, 2) := by decide +kernel
theorem dX0_takenThen_22 : decode cX0_takenThen 22 = .ok (.iaload, 1) := by decide +kernel
theorem dX0_takenThen_23 : decode cX0_takenThen 23 = .ok (.ineg, 1) := by decide +kernel
theorem dX0_takenThen_24 : decode cX0_takenThen 24 = .ok (.istore 5, 2) := by decide +kernel
theorem dX0_takenThen_26 : decode cX0_takenThen 26 = .ok (.iload 5, 2) := by decide +kernel
theorem dX0_takenThen_28 : decode cX0_takenThen 28 = .ok (.aload_n 0, 1) := by decide +kernel
theorem dX0_takenThen_29 : decode cX0_takenThen 29 = .ok (.iload_n 1, 1) := by decide +kernel
theorem dX0_takenThen_30 : decode cX0_takenThen 30 = .ok (.iconst 1, 1) := by decide +kernel
theorem dX0_takenThen_31 : decode cX0_takenThen 31 = .ok (.iadd, 1) := by decide +kernel
theorem dX0_takenThen_32 : decode cX0_takenThen 32 = .ok (.iload_n 2, 1) := by decide +kernel
theorem dX0_takenThen_33 : decode cX0_takenThen 33 = .ok (.iload_n 3, 1) := by decide +kernel
theorem dX0_takenThen_34 : decode cX0_takenThen 34 = .ok (.iconst 1, 1) := by decide +kernel
theorem dX0_takenThen_35 : decode cX0_takenThen 35 = .ok (.iload 4, 2) := by decide +kernel
theorem dX0_takenThen_37 : decode cX0_takenThen 37 = .ok (.ishl, 1) := by decide +kernel
theorem dX0_takenThen_38 : decode cX0_takenThen 38 = .ok (.ior, 1) := by decide +kernel
theorem dX0_takenThen_39 : decode cX0_takenThen 39 = .ok (.invokevirtual 54, 3) := by decide +kernel
theorem dX0_takenThen_42 : decode cX0_takenThen 42 = .ok (.iadd, 1) := by decide +kernel
theorem dX0_takenThen_43 : decode cX0_takenThen 43 = .ok (.ireturn, 1) := by decide +kernel
noncomputable def fX0_takenThen_j24 (rf : Nat → Nat → Nat) (rc : Nat → Int32 → Int32 → Int32 → o_Mem → Option (Int32 × o_Mem)) (a0 : Nat) (x1 : Int32) (x2 : Int32) (x3 : Int32) (x4 : Int32) (y0 : Int32) (μ0 : o_Mem) : Option (Int32 × o_Mem) :=
  o_bd (rc a0 (x1 + 1) x2 (x3 ||| (1 <<< (x4 &&& 31))) μ0) fun r1 μ1 =>
  some ((y0 + r1), μ1)
noncomputable def fX0_takenThenG (rf : Nat → Nat → Nat) (rc : Nat → Int32 → Int32 → Int32 → o_Mem → Option (Int32 × o_Mem)) (a0 : Nat) (x1 : Int32) (x2 : Int32) (x3 : Int32) (x4 : Int32) (μ0 : o_Mem) : Option (Int32 × o_Mem) :=
  if (x1 - x1 / 2 * 2) = 0 then (
    o_ck (0 ≤ (x4).toInt ∧ (x4).toInt < 12) <|
    fX0_takenThen_j24 rf rc a0 x1 x2 x3 x4 (μ0.1 (rf a0 1) x4.toNatClampNeg) μ0)
  else (
    o_ck (0 ≤ (x4).toInt ∧ (x4).toInt < 12) <|
    fX0_takenThen_j24 rf rc a0 x1 x2 x3 x4 (-(μ0.1 (rf a0 2) x4.toNatClampNeg)) μ0)
set_option maxRecDepth 20000 in
theorem dnX0_takenThen_j24 {X : o_Cx} (hX : o_ok X) {d : Nat} {rc : Nat → Int32 → Int32 → Int32 → o_Mem → Option (Int32 × o_Mem)} (hrc : ∀ (a9 : Nat) (y0 y1 y2 : Int32) (μ : o_Mem) (q : Int32 → o_Mem → Prop), o_is X a9 (.inl 0) → o_Post (rc a9 y0 y1 y2 μ) q → o_Ev X (d + 0) mX0_best 0 [some (.ref (o_ad X a9)), some (.int y0), some (.int y1), some (.int y2), none, none, none, none, none] [] μ (o_QI q)) {a0 : Nat} {x1 : Int32} {x2 : Int32} {x3 : Int32} {x4 : Int32} {y0 : Int32} {μ0 : o_Mem} {q : Int32 → o_Mem → Prop} (h0 : o_is X a0 (.inl 0)) (h : o_Post (fX0_takenThen_j24 (o_rf X) rc a0 x1 x2 x3 x4 y0 μ0) q) : o_Ev X (d + 1) mX0_takenThen 24 [some (.ref (o_ad X a0)), some (.int x1), some (.int x2), some (.int x3), some (.int x4), none] [.int y0] μ0 (o_QI q) := by
  unfold fX0_takenThen_j24 at h
  refine s_istore dX0_takenThen_24 (Nat.le_of_ble_eq_true rfl) rfl ?_
  refine s_iload dX0_takenThen_26 rfl ?_
  refine s_aload_n (i := 0) dX0_takenThen_28 rfl rfl ?_
  refine s_iload_n (i := 1) dX0_takenThen_29 rfl rfl ?_
  refine s_iconst dX0_takenThen_30 kI_1 ?_
  refine s_iadd dX0_takenThen_31 ?_
  refine s_iload_n (i := 2) dX0_takenThen_32 rfl rfl ?_
  refine s_iload_n (i := 3) dX0_takenThen_33 rfl rfl ?_
  refine s_iconst dX0_takenThen_34 kI_1 ?_
  refine s_iload dX0_takenThen_35 rfl ?_
  refine s_ishl dX0_takenThen_37 ?_
  refine s_ior dX0_takenThen_38 ?_
  refine s_callVi (C := mX0_best) (As := [.int (x1 + 1), .int x2, .int (x3 ||| (1 <<< (x4 &&& 31)))]) (rest := [.int y0]) (L0 := [some (.ref (o_ad X a0)), some (.int (x1 + 1)), some (.int x2), some (.int (x3 ||| (1 <<< (x4 &&& 31)))), none, none, none, none, none]) hX h0 clX0_54 dX0_takenThen_39 rfl rfl (Nat.le_of_ble_eq_true rfl) (Nat.le_of_ble_eq_true rfl) (hrc _ _ _ _ _ _ h0 (o_bdp h)) (fun r1 μ1 h => ?_)
  refine s_iadd dX0_takenThen_42 ?_
  exact s_ireturn rfl dX0_takenThen_43 ⟨_, rfl, o_ret h⟩
set_option maxRecDepth 20000 in
theorem dnX0_takenThenG {X : o_Cx} (hX : o_ok X) {d : Nat} {rc : Nat → Int32 → Int32 → Int32 → o_Mem → Option (Int32 × o_Mem)} (hrc : ∀ (a9 : Nat) (y0 y1 y2 : Int32) (μ : o_Mem) (q : Int32 → o_Mem → Prop), o_is X a9 (.inl 0) → o_Post (rc a9 y0 y1 y2 μ) q → o_Ev X (d + 0) mX0_best 0 [some (.ref (o_ad X a9)), some (.int y0), some (.int y1), some (.int y2), none, none, none, none, none] [] μ (o_QI q)) {a0 : Nat} {x1 : Int32} {x2 : Int32} {x3 : Int32} {x4 : Int32} {μ0 : o_Mem} {q : Int32 → o_Mem → Prop} (h0 : o_is X a0 (.inl 0)) (h : o_Post (fX0_takenThenG (o_rf X) rc a0 x1 x2 x3 x4 μ0) q) : o_Ev X (d + 1) mX0_takenThen 0 [some (.ref (o_ad X a0)), some (.int x1), some (.int x2), some (.int x3), some (.int x4), none] [] μ0 (o_QI q) := by
  unfold fX0_takenThenG at h
  refine s_iload_n (i := 1) dX0_takenThen_0 rfl rfl ?_
  refine s_iconst dX0_takenThen_1 kI_2 ?_
  refine s_irem dX0_takenThen_2 (by decide) ?_
  refine s_if_ne (tgt := 16) dX0_takenThen_3 rfl (fun c1 => ?_) (fun c1 => ?_)
  · have h := o_if_f c1 h
    refine s_aload_n (i := 0) dX0_takenThen_16 rfl rfl ?_
    refine s_getR hX h0 flX0_15 rfl dX0_takenThen_17 (fun (g1 : o_is X (o_rf X a0 2) (.inr (0, 12))) => ?_)
    refine s_iload dX0_takenThen_20 rfl ?_
    have hc := o_ck_c h
    have h := o_ck_k h
    refine s_ialdK g1 hc rfl dX0_takenThen_22 ?_
    refine s_ineg dX0_takenThen_23 ?_
    refine s_mask [true, true, true, true, true, false] (L' := [some (.ref (o_ad X a0)), some (.int x1), some (.int x2), some (.int x3), some (.int x4), none]) rfl ?_
    exact dnX0_takenThen_j24 hX hrc h0 h
  · have h := o_if_t c1 h
    refine s_aload_n (i := 0) dX0_takenThen_6 rfl rfl ?_
    refine s_getR hX h0 flX0_9 rfl dX0_takenThen_7 (fun (g2 : o_is X (o_rf X a0 1) (.inr (0, 12))) => ?_)
    refine s_iload dX0_takenThen_10 rfl ?_
    have hc := o_ck_c h
    have h := o_ck_k h
    refine s_ialdK g2 hc rfl dX0_takenThen_12 ?_
    refine s_goto (tgt := 24) dX0_takenThen_13 rfl ?_
    refine s_mask [true, true, true, true, true, false] (L' := [some (.ref (o_ad X a0)), some (.int x1), some (.int x2), some (.int x3), some (.int x4), none]) rfl ?_
    exact dnX0_takenThen_j24 hX hrc h0 h
theorem dX0_best_0 : decode cX0_best 0 = .ok (.iload_n 1, 1) := by decide +kernel
theorem dX0_best_1 : decode cX0_best 1 = .ok (.iload_n 2, 1) := by decide +kernel
theorem dX0_best_2 : decode cX0_best 2 = .ok (.if_icmp .ge 8, 3) := by decide +kernel
theorem dX0_best_5 : decode cX0_best 5 = .ok (.iload_n 1, 1) := by decide +kernel
theorem dX0_best_6 : decode cX0_best 6 = .ok (.iconst 3, 1) := by decide +kernel
theorem dX0_best_7 : decode cX0_best 7 = .ok (.if_icmp .lt 5, 3) := by decide +kernel
theorem dX0_best_10 : decode cX0_best 10 = .ok (.iconst 0, 1) := by decide +kernel
theorem dX0_best_11 : decode cX0_best 11 = .ok (.ireturn, 1) := by decide +kernel
theorem dX0_best_12 : decode cX0_best 12 = .ok (.iconst 0, 1) := by decide +kernel
theorem dX0_best_13 : decode cX0_best 13 = .ok (.istore 4, 2) := by decide +kernel
theorem dX0_best_15 : decode cX0_best 15 = .ok (.iconst 0, 1) := by decide +kernel
theorem dX0_best_16 : decode cX0_best 16 = .ok (.istore 5, 2) := by decide +kernel
theorem dX0_best_18 : decode cX0_best 18 = .ok (.iconst 0, 1) := by decide +kernel
theorem dX0_best_19 : decode cX0_best 19 = .ok (.istore 6, 2) := by decide +kernel
theorem dX0_best_21 : decode cX0_best 21 = .ok (.iload 6, 2) := by decide +kernel
theorem dX0_best_23 : decode cX0_best 23 = .ok (.aload_n 0, 1) := by decide +kernel
theorem dX0_best_24 : decode cX0_best 24 = .ok (.getfield 30, 3) := by decide +kernel
theorem dX0_best_27 : decode cX0_best 27 = .ok (.if_icmp .ge 81, 3) := by decide +kernel
theorem dX0_best_30 : decode cX0_best 30 = .ok (.iload_n 3, 1) := by decide +kernel
theorem dX0_best_31 : decode cX0_best 31 = .ok (.iload 6, 2) := by decide +kernel
theorem dX0_best_33 : decode cX0_best 33 = .ok (.ishr, 1) := by decide +kernel
theorem dX0_best_34 : decode cX0_best 34 = .ok (.iconst 1, 1) := by decide +kernel
theorem dX0_best_35 : decode cX0_best 35 = .ok (.iand, 1) := by decide +kernel
theorem dX0_best_36 : decode cX0_best 36 = .ok (.ifCond .ne 66, 3) := by decide +kernel
theorem dX0_best_39 : decode cX0_best 39 = .ok (.aload_n 0, 1) := by decide +kernel
theorem dX0_best_40 : decode cX0_best 40 = .ok (.iload_n 1, 1) := by decide +kernel
theorem dX0_best_41 : decode cX0_best 41 = .ok (.iload_n 2, 1) := by decide +kernel
theorem dX0_best_42 : decode cX0_best 42 = .ok (.iload_n 3, 1) := by decide +kernel
theorem dX0_best_43 : decode cX0_best 43 = .ok (.iload 6, 2) := by decide +kernel
theorem dX0_best_45 : decode cX0_best 45 = .ok (.invokevirtual 61, 3) := by decide +kernel
theorem dX0_best_48 : decode cX0_best 48 = .ok (.istore 7, 2) := by decide +kernel
theorem dX0_best_50 : decode cX0_best 50 = .ok (.iload_n 1, 1) := by decide +kernel
theorem dX0_best_51 : decode cX0_best 51 = .ok (.iconst 2, 1) := by decide +kernel
theorem dX0_best_52 : decode cX0_best 52 = .ok (.irem, 1) := by decide +kernel
theorem dX0_best_53 : decode cX0_best 53 = .ok (.ifCond .ne 18, 3) := by decide +kernel
theorem dX0_best_56 : decode cX0_best 56 = .ok (.iload 7, 2) := by decide +kernel
theorem dX0_best_58 : decode cX0_best 58 = .ok (.iload 4, 2) := by decide +kernel
theorem dX0_best_60 : decode cX0_best 60 = .ok (.if_icmp .le 7, 3) := by decide +kernel
theorem dX0_best_63 : decode cX0_best 63 = .ok (.iconst 1, 1) := by decide +kernel
theorem dX0_best_64 : decode cX0_best 64 = .ok (.goto 19, 3) := by decide +kernel
theorem dX0_best_67 : decode cX0_best 67 = .ok (.iconst 0, 1) := by decide +kernel
theorem dX0_best_68 : decode cX0_best 68 = .ok (.goto 15, 3) := by decide +kernel
theorem dX0_best_71 : decode cX0_best 71 = .ok (.iload 7, 2) := by decide +kernel
theorem dX0_best_73 : decode cX0_best 73 = .ok (.iload 4, 2) := by decide +kernel
theorem dX0_best_75 : decode cX0_best 75 = .ok (.if_icmp .ge 7, 3) := by decide +kernel
theorem dX0_best_78 : decode cX0_best 78 = .ok (.iconst 1, 1) := by decide +kernel
theorem dX0_best_79 : decode cX0_best 79 = .ok (.goto 4, 3) := by decide +kernel
theorem dX0_best_82 : decode cX0_best 82 = .ok (.iconst 0, 1) := by decide +kernel
theorem dX0_best_83 : decode cX0_best 83 = .ok (.istore 8, 2) := by decide +kernel
theorem dX0_best_85 : decode cX0_best 85 = .ok (.iload 5, 2) := by decide +kernel
theorem dX0_best_87 : decode cX0_best 87 = .ok (.ifCond .eq 8, 3) := by decide +kernel
theorem dX0_best_90 : decode cX0_best 90 = .ok (.iload 8, 2) := by decide +kernel
theorem dX0_best_92 : decode cX0_best 92 = .ok (.ifCond .eq 10, 3) := by decide +kernel
theorem dX0_best_95 : decode cX0_best 95 = .ok (.iload 7, 2) := by decide +kernel
theorem dX0_best_97 : decode cX0_best 97 = .ok (.istore 4, 2) := by decide +kernel
theorem dX0_best_99 : decode cX0_best 99 = .ok (.iconst 1, 1) := by decide +kernel
theorem dX0_best_100 : decode cX0_best 100 = .ok (.istore 5, 2) := by decide +kernel
theorem dX0_best_102 : decode cX0_best 102 = .ok (.iinc 6 1, 3) := by decide +kernel
theorem dX0_best_105 : decode cX0_best 105 = .ok (.goto (-84), 3) := by decide +kernel
theorem dX0_best_108 : decode cX0_best 108 = .ok (.iload 4, 2) := by decide +kernel
theorem dX0_best_110 : decode cX0_best 110 = .ok (.ireturn, 1) := by decide +kernel
noncomputable def fX0_best_j95 (rf : Nat → Nat → Nat) (rc : Nat → Int32 → Int32 → Int32 → Int32 → o_Mem → Option (Int32 × o_Mem)) (a0 : Nat) (x1 : Int32) (x2 : Int32) (x3 : Int32) (x6 : Int32) (x7 : Int32) (μ0 : o_Mem) : Option ((Nat × (Int32 × Int32 × Int32)) × o_Mem) :=
  some ((21, (x7, 1, (x6 + 1))), μ0)
noncomputable def fX0_best_j83 (rf : Nat → Nat → Nat) (rc : Nat → Int32 → Int32 → Int32 → Int32 → o_Mem → Option (Int32 × o_Mem)) (a0 : Nat) (x1 : Int32) (x2 : Int32) (x3 : Int32) (x4 : Int32) (x5 : Int32) (x6 : Int32) (x7 : Int32) (y0 : Int32) (μ0 : o_Mem) : Option ((Nat × (Int32 × Int32 × Int32)) × o_Mem) :=
  if x5 = 0 then (
    fX0_best_j95 rf rc a0 x1 x2 x3 x6 x7 μ0)
  else (
    if y0 = 0 then (
      some ((21, (x4, x5, (x6 + 1))), μ0))
    else (
      fX0_best_j95 rf rc a0 x1 x2 x3 x6 x7 μ0))
noncomputable def fX0_best_s21 (rf : Nat → Nat → Nat) (rc : Nat → Int32 → Int32 → Int32 → Int32 → o_Mem → Option (Int32 × o_Mem)) (a0 : Nat) (x1 : Int32) (x2 : Int32) (x3 : Int32) (τ21 : Int32 × Int32 × Int32) (μ0 : o_Mem) : Option ((Nat × (Int32 × Int32 × Int32)) × o_Mem) :=
  if (μ0.1 a0 0) ≤ τ21.2.2 then (
    some ((108, (τ21.1, 0, 0)), μ0))
  else (
    if ((x3 >>> (τ21.2.2 &&& 31)) &&& 1) = 0 then (
      o_bd (rc a0 x1 x2 x3 τ21.2.2 μ0) fun r1 μ1 =>
      if (x1 - x1 / 2 * 2) = 0 then (
        if r1 ≤ τ21.1 then (
          fX0_best_j83 rf rc a0 x1 x2 x3 τ21.1 τ21.2.1 τ21.2.2 r1 0 μ1)
        else (
          fX0_best_j83 rf rc a0 x1 x2 x3 τ21.1 τ21.2.1 τ21.2.2 r1 1 μ1))
      else (
        if τ21.1 ≤ r1 then (
          fX0_best_j83 rf rc a0 x1 x2 x3 τ21.1 τ21.2.1 τ21.2.2 r1 0 μ1)
        else (
          fX0_best_j83 rf rc a0 x1 x2 x3 τ21.1 τ21.2.1 τ21.2.2 r1 1 μ1)))
    else (
      some ((21, (τ21.1, τ21.2.1, (τ21.2.2 + 1))), μ0)))
noncomputable def fX0_bestG (rf : Nat → Nat → Nat) (rc : Nat → Int32 → Int32 → Int32 → Int32 → o_Mem → Option (Int32 × o_Mem)) (a0 : Nat) (x1 : Int32) (x2 : Int32) (x3 : Int32) (μ0 : o_Mem) : Option (Int32 × o_Mem) :=
  if x2 ≤ x1 then (
    some (0, μ0))
  else (
    if x1 < 3 then (
      o_bd (o_lp 21 (fX0_best_s21 rf rc a0 x1 x2 x3) o_fuel (0, 0, 0) μ0) fun ex1 μ1 =>
      if ex1.1 = 108 then (
        some (ex1.2.1, μ1))
      else
        none)
    else (
      some (0, μ0)))
set_option maxRecDepth 20000 in
theorem dnX0_best_j95 {X : o_Cx} (hX : o_ok X) {d : Nat} {rc : Nat → Int32 → Int32 → Int32 → Int32 → o_Mem → Option (Int32 × o_Mem)} (hrc : ∀ (a9 : Nat) (y0 y1 y2 y3 : Int32) (μ : o_Mem) (q : Int32 → o_Mem → Prop), o_is X a9 (.inl 0) → o_Post (rc a9 y0 y1 y2 y3 μ) q → o_Ev X (d + 0) mX0_takenThen 0 [some (.ref (o_ad X a9)), some (.int y0), some (.int y1), some (.int y2), some (.int y3), none] [] μ (o_QI q)) {a0 : Nat} {x1 : Int32} {x2 : Int32} {x3 : Int32} {x6 : Int32} {x7 : Int32} {μ0 : o_Mem} {K : (Nat × (Int32 × Int32 × Int32)) → o_Mem → Prop} {Q : Option Value → o_Mem → Prop} (h0 : o_is X a0 (.inl 0)) (h : o_Post (fX0_best_j95 (o_rf X) rc a0 x1 x2 x3 x6 x7 μ0) K) (kh : ∀ (τ21 : Int32 × Int32 × Int32) (μ : o_Mem), K (21, τ21) μ → o_Ev X (d + 1) mX0_best 21 [some (.ref (o_ad X a0)), some (.int x1), some (.int x2), some (.int x3), some (.int τ21.1), some (.int τ21.2.1), some (.int τ21.2.2), none, none] [] μ Q) (k108 : ∀ (τ21 : Int32 × Int32 × Int32) (μ : o_Mem), K (108, τ21) μ → o_Ev X (d + 1) mX0_best 108 [none, none, none, none, some (.int τ21.1), none, none, none, none] [] μ Q) : o_Ev X (d + 1) mX0_best 95 [some (.ref (o_ad X a0)), some (.int x1), some (.int x2), some (.int x3), none, none, some (.int x6), some (.int x7), none] [] μ0 Q := by
  unfold fX0_best_j95 at h
  refine s_iload dX0_best_95 rfl ?_
  refine s_istore dX0_best_97 (Nat.le_of_ble_eq_true rfl) rfl ?_
  refine s_iconst dX0_best_99 kI_1 ?_
  refine s_istore dX0_best_100 (Nat.le_of_ble_eq_true rfl) rfl ?_
  refine s_iinc (v := (x6 + 1)) dX0_best_102 rfl rfl (Nat.le_of_ble_eq_true rfl) rfl ?_
  refine s_goto (tgt := 21) dX0_best_105 rfl ?_
  refine s_mask [true, true, true, true, true, true, true, false, false] (L' := [some (.ref (o_ad X a0)), some (.int x1), some (.int x2), some (.int x3), some (.int x7), some (.int 1), some (.int (x6 + 1)), none, none]) rfl ?_
  exact kh (x7, 1, (x6 + 1)) _ (o_ret h)
set_option maxRecDepth 20000 in
theorem dnX0_best_j83 {X : o_Cx} (hX : o_ok X) {d : Nat} {rc : Nat → Int32 → Int32 → Int32 → Int32 → o_Mem → Option (Int32 × o_Mem)} (hrc : ∀ (a9 : Nat) (y0 y1 y2 y3 : Int32) (μ : o_Mem) (q : Int32 → o_Mem → Prop), o_is X a9 (.inl 0) → o_Post (rc a9 y0 y1 y2 y3 μ) q → o_Ev X (d + 0) mX0_takenThen 0 [some (.ref (o_ad X a9)), some (.int y0), some (.int y1), some (.int y2), some (.int y3), none] [] μ (o_QI q)) {a0 : Nat} {x1 : Int32} {x2 : Int32} {x3 : Int32} {x4 : Int32} {x5 : Int32} {x6 : Int32} {x7 : Int32} {y0 : Int32} {μ0 : o_Mem} {K : (Nat × (Int32 × Int32 × Int32)) → o_Mem → Prop} {Q : Option Value → o_Mem → Prop} (h0 : o_is X a0 (.inl 0)) (h : o_Post (fX0_best_j83 (o_rf X) rc a0 x1 x2 x3 x4 x5 x6 x7 y0 μ0) K) (kh : ∀ (τ21 : Int32 × Int32 × Int32) (μ : o_Mem), K (21, τ21) μ → o_Ev X (d + 1) mX0_best 21 [some (.ref (o_ad X a0)), some (.int x1), some (.int x2), some (.int x3), some (.int τ21.1), some (.int τ21.2.1), some (.int τ21.2.2), none, none] [] μ Q) (k108 : ∀ (τ21 : Int32 × Int32 × Int32) (μ : o_Mem), K (108, τ21) μ → o_Ev X (d + 1) mX0_best 108 [none, none, none, none, some (.int τ21.1), none, none, none, none] [] μ Q) : o_Ev X (d + 1) mX0_best 83 [some (.ref (o_ad X a0)), some (.int x1), some (.int x2), some (.int x3), some (.int x4), some (.int x5), some (.int x6), some (.int x7), none] [.int y0] μ0 Q := by
  unfold fX0_best_j83 at h
  refine s_istore dX0_best_83 (Nat.le_of_ble_eq_true rfl) rfl ?_
  refine s_iload dX0_best_85 rfl ?_
  refine s_if_eq (tgt := 95) dX0_best_87 rfl (fun c1 => ?_) (fun c1 => ?_)
  · have h := o_if_t c1 h
    refine s_mask [true, true, true, true, false, false, true, true, false] (L' := [some (.ref (o_ad X a0)), some (.int x1), some (.int x2), some (.int x3), none, none, some (.int x6), some (.int x7), none]) rfl ?_
    exact dnX0_best_j95 hX hrc h0 h kh k108
  · have h := o_if_f c1 h
    refine s_iload dX0_best_90 rfl ?_
    refine s_if_eq (tgt := 102) dX0_best_92 rfl (fun c1 => ?_) (fun c1 => ?_)
    · have h := o_if_t c1 h
      refine s_iinc (v := (x6 + 1)) dX0_best_102 rfl rfl (Nat.le_of_ble_eq_true rfl) rfl ?_
      refine s_goto (tgt := 21) dX0_best_105 rfl ?_
      refine s_mask [true, true, true, true, true, true, true, false, false] (L' := [some (.ref (o_ad X a0)), some (.int x1), some (.int x2), some (.int x3), some (.int x4), some (.int x5), some (.int (x6 + 1)), none, none]) rfl ?_
      exact kh (x4, x5, (x6 + 1)) _ (o_ret h)
    · have h := o_if_f c1 h
      refine s_mask [true, true, true, true, false, false, true, true, false] (L' := [some (.ref (o_ad X a0)), some (.int x1), some (.int x2), some (.int x3), none, none, some (.int x6), some (.int x7), none]) rfl ?_
      exact dnX0_best_j95 hX hrc h0 h kh k108
set_option maxRecDepth 20000 in
theorem dnX0_best_s21 {X : o_Cx} (hX : o_ok X) {d : Nat} {rc : Nat → Int32 → Int32 → Int32 → Int32 → o_Mem → Option (Int32 × o_Mem)} (hrc : ∀ (a9 : Nat) (y0 y1 y2 y3 : Int32) (μ : o_Mem) (q : Int32 → o_Mem → Prop), o_is X a9 (.inl 0) → o_Post (rc a9 y0 y1 y2 y3 μ) q → o_Ev X (d + 0) mX0_takenThen 0 [some (.ref (o_ad X a9)), some (.int y0), some (.int y1), some (.int y2), some (.int y3), none] [] μ (o_QI q)) {a0 : Nat} {x1 : Int32} {x2 : Int32} {x3 : Int32} {τ21 : Int32 × Int32 × Int32} {μ0 : o_Mem} {K : (Nat × (Int32 × Int32 × Int32)) → o_Mem → Prop} {Q : Option Value → o_Mem → Prop} (h0 : o_is X a0 (.inl 0)) (h : o_Post (fX0_best_s21 (o_rf X) rc a0 x1 x2 x3 τ21 μ0) K) (kh : ∀ (τ21 : Int32 × Int32 × Int32) (μ : o_Mem), K (21, τ21) μ → o_Ev X (d + 1) mX0_best 21 [some (.ref (o_ad X a0)), some (.int x1), some (.int x2), some (.int x3), some (.int τ21.1), some (.int τ21.2.1), some (.int τ21.2.2), none, none] [] μ Q) (k108 : ∀ (τ21 : Int32 × Int32 × Int32) (μ : o_Mem), K (108, τ21) μ → o_Ev X (d + 1) mX0_best 108 [none, none, none, none, some (.int τ21.1), none, none, none, none] [] μ Q) : o_Ev X (d + 1) mX0_best 21 [some (.ref (o_ad X a0)), some (.int x1), some (.int x2), some (.int x3), some (.int τ21.1), some (.int τ21.2.1), some (.int τ21.2.2), none, none] [] μ0 Q := by
  unfold fX0_best_s21 at h
  refine s_iload dX0_best_21 rfl ?_
  refine s_aload_n (i := 0) dX0_best_23 rfl rfl ?_
  refine s_getI h0 flX0_30 rfl dX0_best_24 ?_
  refine s_icmp_ge (tgt := 108) dX0_best_27 rfl (fun c1 => ?_) (fun c1 => ?_)
  · have h := o_if_t c1 h
    refine s_mask [false, false, false, false, true, false, false, false, false] (L' := [none, none, none, none, some (.int τ21.1), none, none, none, none]) rfl ?_
    exact k108 (τ21.1, 0, 0) _ (o_ret h)
  · have h := o_if_f c1 h
    refine s_iload_n (i := 3) dX0_best_30 rfl rfl ?_
    refine s_iload dX0_best_31 rfl ?_
    refine s_ishr dX0_best_33 ?_
    refine s_iconst dX0_best_34 kI_1 ?_
    refine s_iand dX0_best_35 ?_
    refine s_if_ne (tgt := 102) dX0_best_36 rfl (fun c1 => ?_) (fun c1 => ?_)
    · have h := o_if_f c1 h
      refine s_iinc (v := (τ21.2.2 + 1)) dX0_best_102 rfl rfl (Nat.le_of_ble_eq_true rfl) rfl ?_
      refine s_goto (tgt := 21) dX0_best_105 rfl ?_
      refine s_mask [true, true, true, true, true, true, true, false, false] (L' := [some (.ref (o_ad X a0)), some (.int x1), some (.int x2), some (.int x3), some (.int τ21.1), some (.int τ21.2.1), some (.int (τ21.2.2 + 1)), none, none]) rfl ?_
      exact kh (τ21.1, τ21.2.1, (τ21.2.2 + 1)) _ (o_ret h)
    · have h := o_if_t c1 h
      refine s_aload_n (i := 0) dX0_best_39 rfl rfl ?_
      refine s_iload_n (i := 1) dX0_best_40 rfl rfl ?_
      refine s_iload_n (i := 2) dX0_best_41 rfl rfl ?_
      refine s_iload_n (i := 3) dX0_best_42 rfl rfl ?_
      refine s_iload dX0_best_43 rfl ?_
      refine s_callVi (C := mX0_takenThen) (As := [.int x1, .int x2, .int x3, .int τ21.2.2]) (rest := []) (L0 := [some (.ref (o_ad X a0)), some (.int x1), some (.int x2), some (.int x3), some (.int τ21.2.2), none]) hX h0 clX0_61 dX0_best_45 rfl rfl (Nat.le_of_ble_eq_true rfl) (Nat.le_of_ble_eq_true rfl) (hrc _ _ _ _ _ _ _ h0 (o_bdp h)) (fun r1 μ1 h => ?_)
      refine s_istore dX0_best_48 (Nat.le_of_ble_eq_true rfl) rfl ?_
      refine s_iload_n (i := 1) dX0_best_50 rfl rfl ?_
      refine s_iconst dX0_best_51 kI_2 ?_
      refine s_irem dX0_best_52 (by decide) ?_
      refine s_if_ne (tgt := 71) dX0_best_53 rfl (fun c1 => ?_) (fun c1 => ?_)
      · have h := o_if_f c1 h
        refine s_iload dX0_best_71 rfl ?_
        refine s_iload dX0_best_73 rfl ?_
        refine s_icmp_ge (tgt := 82) dX0_best_75 rfl (fun c1 => ?_) (fun c1 => ?_)
        · have h := o_if_t c1 h
          refine s_iconst dX0_best_82 kI_0 ?_
          refine s_mask [true, true, true, true, true, true, true, true, false] (L' := [some (.ref (o_ad X a0)), some (.int x1), some (.int x2), some (.int x3), some (.int τ21.1), some (.int τ21.2.1), some (.int τ21.2.2), some (.int r1), none]) rfl ?_
          exact dnX0_best_j83 hX hrc h0 h kh k108
        · have h := o_if_f c1 h
          refine s_iconst dX0_best_78 kI_1 ?_
          refine s_goto (tgt := 83) dX0_best_79 rfl ?_
          refine s_mask [true, true, true, true, true, true, true, true, false] (L' := [some (.ref (o_ad X a0)), some (.int x1), some (.int x2), some (.int x3), some (.int τ21.1), some (.int τ21.2.1), some (.int τ21.2.2), some (.int r1), none]) rfl ?_
          exact dnX0_best_j83 hX hrc h0 h kh k108
      · have h := o_if_t c1 h
        refine s_iload dX0_best_56 rfl ?_
        refine s_iload dX0_best_58 rfl ?_
        refine s_icmp_le (tgt := 67) dX0_best_60 rfl (fun c1 => ?_) (fun c1 => ?_)
        · have h := o_if_t c1 h
          refine s_iconst dX0_best_67 kI_0 ?_
          refine s_goto (tgt := 83) dX0_best_68 rfl ?_
          refine s_mask [true, true, true, true, true, true, true, true, false] (L' := [some (.ref (o_ad X a0)), some (.int x1), some (.int x2), some (.int x3), some (.int τ21.1), some (.int τ21.2.1), some (.int τ21.2.2), some (.int r1), none]) rfl ?_
          exact dnX0_best_j83 hX hrc h0 h kh k108
        · have h := o_if_f c1 h
          refine s_iconst dX0_best_63 kI_1 ?_
          refine s_goto (tgt := 83) dX0_best_64 rfl ?_
          refine s_mask [true, true, true, true, true, true, true, true, false] (L' := [some (.ref (o_ad X a0)), some (.int x1), some (.int x2), some (.int x3), some (.int τ21.1), some (.int τ21.2.1), some (.int τ21.2.2), some (.int r1), none]) rfl ?_
          exact dnX0_best_j83 hX hrc h0 h kh k108
set_option maxRecDepth 20000 in
theorem dnX0_bestG {X : o_Cx} (hX : o_ok X) {d : Nat} {rc : Nat → Int32 → Int32 → Int32 → Int32 → o_Mem → Option (Int32 × o_Mem)} (hrc : ∀ (a9 : Nat) (y0 y1 y2 y3 : Int32) (μ : o_Mem) (q : Int32 → o_Mem → Prop), o_is X a9 (.inl 0) → o_Post (rc a9 y0 y1 y2 y3 μ) q → o_Ev X (d + 0) mX0_takenThen 0 [some (.ref (o_ad X a9)), some (.int y0), some (.int y1), some (.int y2), some (.int y3), none] [] μ (o_QI q)) {a0 : Nat} {x1 : Int32} {x2 : Int32} {x3 : Int32} {μ0 : o_Mem} {q : Int32 → o_Mem → Prop} (h0 : o_is X a0 (.inl 0)) (h : o_Post (fX0_bestG (o_rf X) rc a0 x1 x2 x3 μ0) q) : o_Ev X (d + 1) mX0_best 0 [some (.ref (o_ad X a0)), some (.int x1), some (.int x2), some (.int x3), none, none, none, none, none] [] μ0 (o_QI q) := by
  unfold fX0_bestG at h
  refine s_iload_n (i := 1) dX0_best_0 rfl rfl ?_
  refine s_iload_n (i := 2) dX0_best_1 rfl rfl ?_
  refine s_icmp_ge (tgt := 10) dX0_best_2 rfl (fun c1 => ?_) (fun c1 => ?_)
  · have h := o_if_t c1 h
    refine s_iconst dX0_best_10 kI_0 ?_
    exact s_ireturn rfl dX0_best_11 ⟨_, rfl, o_ret h⟩
  · have h := o_if_f c1 h
    refine s_iload_n (i := 1) dX0_best_5 rfl rfl ?_
    refine s_iconst dX0_best_6 kI_3 ?_
    refine s_icmp_lt (tgt := 12) dX0_best_7 rfl (fun c1 => ?_) (fun c1 => ?_)
    · have h := o_if_t c1 h
      refine s_iconst dX0_best_12 kI_0 ?_
      refine s_istore dX0_best_13 (Nat.le_of_ble_eq_true rfl) rfl ?_
      refine s_iconst dX0_best_15 kI_0 ?_
      refine s_istore dX0_best_16 (Nat.le_of_ble_eq_true rfl) rfl ?_
      refine s_iconst dX0_best_18 kI_0 ?_
      refine s_istore dX0_best_19 (Nat.le_of_ble_eq_true rfl) rfl ?_
      refine s_mask [true, true, true, true, true, true, true, false, false] (L' := [some (.ref (o_ad X a0)), some (.int x1), some (.int x2), some (.int x3), some (.int 0), some (.int 0), some (.int 0), none, none]) rfl ?_
      refine o_lp_ev (fun τ21 => [some (.ref (o_ad X a0)), some (.int x1), some (.int x2), some (.int x3), some (.int τ21.1), some (.int τ21.2.1), some (.int τ21.2.2), none, none]) (fun τ21 μ _K h kv ke21 => dnX0_best_s21 hX hrc h0 h kv (fun τ21 μ1 h => ?_)) o_fuel (0, 0, 0) μ0 (o_bdp h)
      · have h := o_if_t rfl (ke21 (108, τ21) μ1 (o_ne rfl) h)
        refine s_iload dX0_best_108 rfl ?_
        exact s_ireturn rfl dX0_best_110 ⟨_, rfl, o_ret h⟩
    · have h := o_if_f c1 h
      refine s_iconst dX0_best_10 kI_0 ?_
      exact s_ireturn rfl dX0_best_11 ⟨_, rfl, o_ret h⟩
noncomputable def fX0_bestN (rf : Nat → Nat → Nat) : Nat → Nat → Int32 → Int32 → Int32 → o_Mem → Option (Int32 × o_Mem)
  | 0, _, _, _, _, _ => none
  | n + 1, a0, x1, x2, x3, μ => fX0_bestG rf (fun a y0 y1 y2 y3 μ => fX0_takenThenG rf (fX0_bestN rf n) a y0 y1 y2 y3 μ) a0 x1 x2 x3 μ
noncomputable def fX0_best (rf : Nat → Nat → Nat) (a0 : Nat) (x1 x2 x3 : Int32) (μ : o_Mem) : Option (Int32 × o_Mem) := fX0_bestN rf 5 a0 x1 x2 x3 μ
noncomputable def fX0_takenThen (rf : Nat → Nat → Nat) (a0 : Nat) (x1 x2 x3 x4 : Int32) (μ : o_Mem) : Option (Int32 × o_Mem) := fX0_takenThenG rf (fX0_bestN rf 5) a0 x1 x2 x3 x4 μ
theorem dnX0_bestN {X : o_Cx} (hX : o_ok X) {d : Nat} : ∀ (n : Nat) (a0 : Nat) (x1 x2 x3 : Int32) (μ0 : o_Mem) (q : Int32 → o_Mem → Prop), o_is X a0 (.inl 0) → o_Post (fX0_bestN (o_rf X) n a0 x1 x2 x3 μ0) q → o_Ev X (d + 2 * n) mX0_best 0 [some (.ref (o_ad X a0)), some (.int x1), some (.int x2), some (.int x3), none, none, none, none, none] [] μ0 (o_QI q)
  | 0, _, _, _, _, _, _, _, h => o_none h
  | n + 1, a0, x1, x2, x3, μ0, q, h0, h => dnX0_bestG hX (d := d + 2 * n + 1) (rc := fun a y0 y1 y2 y3 μ => fX0_takenThenG (o_rf X) (fX0_bestN (o_rf X) n) a y0 y1 y2 y3 μ) (fun a9 y0 y1 y2 y3 μ q h9 hp => dnX0_takenThenG hX (d := d + 2 * n) (rc := fX0_bestN (o_rf X) n) (fun a8 z0 z1 z2 μ q h8 hp => dnX0_bestN hX n a8 z0 z1 z2 μ q h8 hp) h9 hp) h0 h
theorem dnX0_best {X : o_Cx} (hX : o_ok X) {d : Nat} {a0 : Nat} {x1 x2 x3 : Int32} {μ0 : o_Mem} {q : Int32 → o_Mem → Prop} (h0 : o_is X a0 (.inl 0)) (h : o_Post (fX0_best (o_rf X) a0 x1 x2 x3 μ0) q) : o_Ev X (d + 10) mX0_best 0 [some (.ref (o_ad X a0)), some (.int x1), some (.int x2), some (.int x3), none, none, none, none, none] [] μ0 (o_QI q) := dnX0_bestN hX 5 a0 x1 x2 x3 μ0 q h0 h
theorem dnX0_takenThen {X : o_Cx} (hX : o_ok X) {d : Nat} {a0 : Nat} {x1 x2 x3 x4 : Int32} {μ0 : o_Mem} {q : Int32 → o_Mem → Prop} (h0 : o_is X a0 (.inl 0)) (h : o_Post (fX0_takenThen (o_rf X) a0 x1 x2 x3 x4 μ0) q) : o_Ev X (d + 11) mX0_takenThen 0 [some (.ref (o_ad X a0)), some (.int x1), some (.int x2), some (.int x3), some (.int x4), none] [] μ0 (o_QI q) := dnX0_takenThenG hX (d := d + 10) (rc := fX0_bestN (o_rf X) 5) (fun a8 z0 z1 z2 μ q h8 hp => dnX0_bestN hX 5 a8 z0 z1 z2 μ q h8 hp) h0 h
theorem dX8_fits_0 : decode cX8_fits 0 = .ok (.iload_n 1, 1) := by decide +kernel
theorem dX8_fits_1 : decode cX8_fits 1 = .ok (.bipush 6, 2) := by decide +kernel
theorem dX8_fits_3 : decode cX8_fits 3 = .ok (.imul, 1) := by decide +kernel
theorem dX8_fits_4 : decode cX8_fits 4 = .ok (.istore 6, 2) := by decide +kernel
theorem dX8_fits_6 : decode cX8_fits 6 = .ok (.aload_n 0, 1) := by decide +kernel
theorem dX8_fits_7 : decode cX8_fits 7 = .ok (.getfield 25, 3) := by decide +kernel
theorem dX8_fits_10 : decode cX8_fits 10 = .ok (.iload 6, 2) := by decide +kernel
theorem dX8_fits_12 : decode cX8_fits 12 = .ok (.iconst 1, 1) := by decide +kernel
theorem dX8_fits_13 : decode cX8_fits 13 = .ok (.iadd, 1) := by decide +kernel
theorem dX8_fits_14 : decode cX8_fits 14 = .ok (.iaload, 1) := by decide +kernel
theorem dX8_fits_15 : decode cX8_fits 15 = .ok (.istore 7, 2) := by decide +kernel
theorem dX8_fits_17 : decode cX8_fits 17 = .ok (.aload_n 0, 1) := by decide +kernel
theorem dX8_fits_18 : decode cX8_fits 18 = .ok (.getfield 25, 3) := by decide +kernel
theorem dX8_fits_21 : decode cX8_fits 21 = .ok (.iload 6, 2) := by decide +kernel
theorem dX8_fits_23 : decode cX8_fits 23 = .ok (.iconst 2, 1) := by decide +kernel
theorem dX8_fits_24 : decode cX8_fits 24 = .ok (.iadd, 1) := by decide +kernel
theorem dX8_fits_25 : decode cX8_fits 25 = .ok (.iaload, 1) := by decide +kernel
theorem dX8_fits_26 : decode cX8_fits 26 = .ok (.istore 8, 2) := by decide +kernel
theorem dX8_fits_28 : decode cX8_fits 28 = .ok (.aload_n 0, 1) := by decide +kernel
theorem dX8_fits_29 : decode cX8_fits 29 = .ok (.getfield 25, 3) := by decide +kernel
theorem dX8_fits_32 : decode cX8_fits 32 = .ok (.iload 6, 2) := by decide +kernel
theorem dX8_fits_34 : decode cX8_fits 34 = .ok (.iconst 3, 1) := by decide +kernel
theorem dX8_fits_35 : decode cX8_fits 35 = .ok (.iadd, 1) := by decide +kernel
theorem dX8_fits_36 : decode cX8_fits 36 = .ok (.iaload, 1) := by decide +kernel
theorem dX8_fits_37 : decode cX8_fits 37 = .ok (.istore 9, 2) := by decide +kernel
theorem dX8_fits_39 : decode cX8_fits 39 = .ok (.aload_n 0, 1) := by decide +kernel
theorem dX8_fits_40 : decode cX8_fits 40 = .ok (.getfield 25, 3) := by decide +kernel
theorem dX8_fits_43 : decode cX8_fits 43 = .ok (.iload 6, 2) := by decide +kernel
theorem dX8_fits_45 : decode cX8_fits 45 = .ok (.iconst 4, 1) := by decide +kernel
theorem dX8_fits_46 : decode cX8_fits 46 = .ok (.iadd, 1) := by decide +kernel
theorem dX8_fits_47 : decode cX8_fits 47 = .ok (.iaload, 1) := by decide +kernel
theorem dX8_fits_48 : decode cX8_fits 48 = .ok (.istore 10, 2) := by decide +kernel
theorem dX8_fits_50 : decode cX8_fits 50 = .ok (.aload_n 0, 1) := by decide +kernel
theorem dX8_fits_51 : decode cX8_fits 51 = .ok (.getfield 25, 3) := by decide +kernel
theorem dX8_fits_54 : decode cX8_fits 54 = .ok (.iload 6, 2) := by decide +kernel
theorem dX8_fits_56 : decode cX8_fits 56 = .ok (.iconst 5, 1) := by decide +kernel
theorem dX8_fits_57 : decode cX8_fits 57 = .ok (.iadd, 1) := by decide +kernel
theorem dX8_fits_58 : decode cX8_fits 58 = .ok (.iaload, 1) := by decide +kernel
theorem dX8_fits_59 : decode cX8_fits 59 = .ok (.istore 11, 2) := by decide +kernel
theorem dX8_fits_61 : decode cX8_fits 61 = .ok (.iload 7, 2) := by decide +kernel
theorem dX8_fits_63 : decode cX8_fits 63 = .ok (.iconst (-1), 1) := by decide +kernel
theorem dX8_fits_64 : decode cX8_fits 64 = .ok (.if_icmp .eq 10, 3) := by decide +kernel
theorem dX8_fits_67 : decode cX8_fits 67 = .ok (.iload 4, 2) := by decide +kernel
theorem dX8_fits_69 : decode cX8_fits 69 = .ok (.iload 7, 2) := by decide +kernel
theorem dX8_fits_71 : decode cX8_fits 71 = .ok (.if_icmp .ge 57, 3) := by decide +kernel
theorem dX8_fits_74 : decode cX8_fits 74 = .ok (.iload 8, 2) := by decide +kernel
theorem dX8_fits_76 : decode cX8_fits 76 = .ok (.iconst (-1), 1) := by decide +kernel
theorem dX8_fits_77 : decode cX8_fits 77 = .ok (.if_icmp .eq 10, 3) := by decide +kernel
theorem dX8_fits_80 : decode cX8_fits 80 = .ok (.iload 4, 2) := by decide +kernel
theorem dX8_fits_82 : decode cX8_fits 82 = .ok (.iload 8, 2) := by decide +kernel
theorem dX8_fits_84 : decode cX8_fits 84 = .ok (.if_icmp .le 44, 3) := by decide +kernel
theorem dX8_fits_87 : decode cX8_fits 87 = .ok (.iload 9, 2) := by decide +kernel
theorem dX8_fits_89 : decode cX8_fits 89 = .ok (.iconst (-1), 1) := by decide +kernel
theorem dX8_fits_90 : decode cX8_fits 90 = .ok (.if_icmp .eq 10, 3) := by decide +kernel
theorem dX8_fits_93 : decode cX8_fits 93 = .ok (.iload 9, 2) := by decide +kernel
theorem dX8_fits_95 : decode cX8_fits 95 = .ok (.iload 5, 2) := by decide +kernel
theorem dX8_fits_97 : decode cX8_fits 97 = .ok (.if_icmp .ne 31, 3) := by decide +kernel
theorem dX8_fits_100 : decode cX8_fits 100 = .ok (.iload 10, 2) := by decide +kernel
theorem dX8_fits_102 : decode cX8_fits 102 = .ok (.iconst (-1), 1) := by decide +kernel
theorem dX8_fits_103 : decode cX8_fits 103 = .ok (.if_icmp .eq 9, 3) := by decide +kernel
theorem dX8_fits_106 : decode cX8_fits 106 = .ok (.iload 10, 2) := by decide +kernel
theorem dX8_fits_108 : decode cX8_fits 108 = .ok (.iload_n 2, 1) := by decide +kernel
theorem dX8_fits_109 : decode cX8_fits 109 = .ok (.if_icmp .ne 19, 3) := by decide +kernel
theorem dX8_fits_112 : decode cX8_fits 112 = .ok (.iload 11, 2) := by decide +kernel
theorem dX8_fits_114 : decode cX8_fits 114 = .ok (.iconst (-1), 1) := by decide +kernel
theorem dX8_fits_115 : decode cX8_fits 115 = .ok (.if_icmp .eq 9, 3) := by decide +kernel
theorem dX8_fits_118 : decode cX8_fits 118 = .ok (.iload 11, 2) := by decide +kernel
theorem dX8_fits_120 : decode cX8_fits 120 = .ok (.iload_n 3, 1) := by decide +kernel
theorem dX8_fits_121 : decode cX8_fits 121 = .ok (.if_icmp .ne 7, 3) := by decide +kernel
theorem dX8_fits_124 : decode cX8_fits 124 = .ok (.iconst 1, 1) := by decide +kernel
theorem dX8_fits_125 : decode cX8_fits 125 = .ok (.goto 4, 3) := by decide +kernel
theorem dX8_fits_128 : decode cX8_fits 128 = .ok (.iconst 0, 1) := by decide +kernel
theorem dX8_fits_129 : decode cX8_fits 129 = .ok (.ireturn, 1) := by decide +kernel
noncomputable def fX8_fits_j112 (rf : Nat → Nat → Nat) (x3 : Int32) (x11 : Int32) (μ0 : o_Mem) : Option (Int32 × o_Mem) :=
  if x11 = (-1) then (
    some (1, μ0))
  else (
    if x11 = x3 then (
      some (1, μ0))
    else (
      some (0, μ0)))
noncomputable def fX8_fits_j100 (rf : Nat → Nat → Nat) (x2 : Int32) (x3 : Int32) (x10 : Int32) (x11 : Int32) (μ0 : o_Mem) : Option (Int32 × o_Mem) :=
  if x10 = (-1) then (
    fX8_fits_j112 rf x3 x11 μ0)
  else (
    if x10 = x2 then (
      fX8_fits_j112 rf x3 x11 μ0)
    else (
      some (0, μ0)))
noncomputable def fX8_fits_j87 (rf : Nat → Nat → Nat) (x2 : Int32) (x3 : Int32) (x5 : Int32) (x9 : Int32) (x10 : Int32) (x11 : Int32) (μ0 : o_Mem) : Option (Int32 × o_Mem) :=
  if x9 = (-1) then (
    fX8_fits_j100 rf x2 x3 x10 x11 μ0)
  else (
    if x9 = x5 then (
      fX8_fits_j100 rf x2 x3 x10 x11 μ0)
    else (
      some (0, μ0)))
noncomputable def fX8_fits_j74 (rf : Nat → Nat → Nat) (x2 : Int32) (x3 : Int32) (x4 : Int32) (x5 : Int32) (x8 : Int32) (x9 : Int32) (x10 : Int32) (x11 : Int32) (μ0 : o_Mem) : Option (Int32 × o_Mem) :=
  if x8 = (-1) then (
    fX8_fits_j87 rf x2 x3 x5 x9 x10 x11 μ0)
  else (
    if x4 ≤ x8 then (
      some (0, μ0))
    else (
      fX8_fits_j87 rf x2 x3 x5 x9 x10 x11 μ0))
noncomputable def fX8_fits (rf : Nat → Nat → Nat) (a0 : Nat) (x1 : Int32) (x2 : Int32) (x3 : Int32) (x4 : Int32) (x5 : Int32) (μ0 : o_Mem) : Option (Int32 × o_Mem) :=
  o_ck (0 ≤ (((x1 * 6) + 1)).toInt ∧ (((x1 * 6) + 1)).toInt < 48) <|
  o_ck (0 ≤ (((x1 * 6) + 2)).toInt ∧ (((x1 * 6) + 2)).toInt < 48) <|
  o_ck (0 ≤ (((x1 * 6) + 3)).toInt ∧ (((x1 * 6) + 3)).toInt < 48) <|
  o_ck (0 ≤ (((x1 * 6) + 4)).toInt ∧ (((x1 * 6) + 4)).toInt < 48) <|
  o_ck (0 ≤ (((x1 * 6) + 5)).toInt ∧ (((x1 * 6) + 5)).toInt < 48) <|
  if (μ0.1 (rf a0 12) (((x1 * 6) + 1)).toNatClampNeg) = (-1) then (
    fX8_fits_j74 rf x2 x3 x4 x5 (μ0.1 (rf a0 12) (((x1 * 6) + 2)).toNatClampNeg) (μ0.1 (rf a0 12) (((x1 * 6) + 3)).toNatClampNeg) (μ0.1 (rf a0 12) (((x1 * 6) + 4)).toNatClampNeg) (μ0.1 (rf a0 12) (((x1 * 6) + 5)).toNatClampNeg) μ0)
  else (
    if (μ0.1 (rf a0 12) (((x1 * 6) + 1)).toNatClampNeg) ≤ x4 then (
      some (0, μ0))
    else (
      fX8_fits_j74 rf x2 x3 x4 x5 (μ0.1 (rf a0 12) (((x1 * 6) + 2)).toNatClampNeg) (μ0.1 (rf a0 12) (((x1 * 6) + 3)).toNatClampNeg) (μ0.1 (rf a0 12) (((x1 * 6) + 4)).toNatClampNeg) (μ0.1 (rf a0 12) (((x1 * 6) + 5)).toNatClampNeg) μ0))
set_option maxRecDepth 20000 in
theorem dnX8_fits_j112 {X : o_Cx} (hX : o_ok X) {d : Nat} {x3 : Int32} {x11 : Int32} {μ0 : o_Mem} {q : Int32 → o_Mem → Prop}  (h : o_Post (fX8_fits_j112 (o_rf X) x3 x11 μ0) q) : o_Ev X (d + 0) mX8_fits 112 [none, none, none, some (.int x3), none, none, none, none, none, none, none, some (.int x11)] [] μ0 (o_QZ q) := by
  unfold fX8_fits_j112 at h
  refine s_iload dX8_fits_112 rfl ?_
  refine s_iconst dX8_fits_114 kI_m1 ?_
  refine s_icmp_eq (tgt := 124) dX8_fits_115 rfl (fun c1 => ?_) (fun c1 => ?_)
  · have h := o_if_t c1 h
    refine s_iconst dX8_fits_124 kI_1 ?_
    refine s_goto (tgt := 129) dX8_fits_125 rfl ?_
    exact s_zreturn rfl (Or.inr rfl) dX8_fits_129 ⟨_, rfl, (Or.inr rfl), o_ret h⟩
  · have h := o_if_f c1 h
    refine s_iload dX8_fits_118 rfl ?_
    refine s_iload_n (i := 3) dX8_fits_120 rfl rfl ?_
    refine s_icmp_ne (tgt := 128) dX8_fits_121 rfl (fun c1 => ?_) (fun c1 => ?_)
    · have h := o_if_f c1 h
      refine s_iconst dX8_fits_128 kI_0 ?_
      exact s_zreturn rfl (Or.inl rfl) dX8_fits_129 ⟨_, rfl, (Or.inl rfl), o_ret h⟩
    · have h := o_if_t c1 h
      refine s_iconst dX8_fits_124 kI_1 ?_
      refine s_goto (tgt := 129) dX8_fits_125 rfl ?_
      exact s_zreturn rfl (Or.inr rfl) dX8_fits_129 ⟨_, rfl, (Or.inr rfl), o_ret h⟩
set_option maxRecDepth 20000 in
theorem dnX8_fits_j100 {X : o_Cx} (hX : o_ok X) {d : Nat} {x2 : Int32} {x3 : Int32} {x10 : Int32} {x11 : Int32} {μ0 : o_Mem} {q : Int32 → o_Mem → Prop}  (h : o_Post (fX8_fits_j100 (o_rf X) x2 x3 x10 x11 μ0) q) : o_Ev X (d + 0) mX8_fits 100 [none, none, some (.int x2), some (.int x3), none, none, none, none, none, none, some (.int x10), some (.int x11)] [] μ0 (o_QZ q) := by
  unfold fX8_fits_j100 at h
  refine s_iload dX8_fits_100 rfl ?_
  refine s_iconst dX8_fits_102 kI_m1 ?_
  refine s_icmp_eq (tgt := 112) dX8_fits_103 rfl (fun c1 => ?_) (fun c1 => ?_)
  · have h := o_if_t c1 h
    refine s_mask [false, false, false, true, false, false, false, false, false, false, false, true] (L' := [none, none, none, some (.int x3), none, none, none, none, none, none, none, some (.int x11)]) rfl ?_
    exact dnX8_fits_j112 hX  h
  · have h := o_if_f c1 h
    refine s_iload dX8_fits_106 rfl ?_
    refine s_iload_n (i := 2) dX8_fits_108 rfl rfl ?_
    refine s_icmp_ne (tgt := 128) dX8_fits_109 rfl (fun c1 => ?_) (fun c1 => ?_)
    · have h := o_if_f c1 h
      refine s_iconst dX8_fits_128 kI_0 ?_
      exact s_zreturn rfl (Or.inl rfl) dX8_fits_129 ⟨_, rfl, (Or.inl rfl), o_ret h⟩
    · have h := o_if_t c1 h
      refine s_mask [false, false, false, true, false, false, false, false, false, false, false, true] (L' := [none, none, none, some (.int x3), none, none, none, none, none, none, none, some (.int x11)]) rfl ?_
      exact dnX8_fits_j112 hX  h
set_option maxRecDepth 20000 in
theorem dnX8_fits_j87 {X : o_Cx} (hX : o_ok X) {d : Nat} {x2 : Int32} {x3 : Int32} {x5 : Int32} {x9 : Int32} {x10 : Int32} {x11 : Int32} {μ0 : o_Mem} {q : Int32 → o_Mem → Prop}  (h : o_Post (fX8_fits_j87 (o_rf X) x2 x3 x5 x9 x10 x11 μ0) q) : o_Ev X (d + 0) mX8_fits 87 [none, none, some (.int x2), some (.int x3), none, some (.int x5), none, none, none, some (.int x9), some (.int x10), some (.int x11)] [] μ0 (o_QZ q) := by
  unfold fX8_fits_j87 at h
  refine s_iload dX8_fits_87 rfl ?_
  refine s_iconst dX8_fits_89 kI_m1 ?_
  refine s_icmp_eq (tgt := 100) dX8_fits_90 rfl (fun c1 => ?_) (fun c1 => ?_)
  · have h := o_if_t c1 h
    refine s_mask [false, false, true, true, false, false, false, false, false, false, true, true] (L' := [none, none, some (.int x2), some (.int x3), none, none, none, none, none, none, some (.int x10), some (.int x11)]) rfl ?_
    exact dnX8_fits_j100 hX  h
  · have h := o_if_f c1 h
    refine s_iload dX8_fits_93 rfl ?_
    refine s_iload dX8_fits_95 rfl ?_
    refine s_icmp_ne (tgt := 128) dX8_fits_97 rfl (fun c1 => ?_) (fun c1 => ?_)
    · have h := o_if_f c1 h
      refine s_iconst dX8_fits_128 kI_0 ?_
      exact s_zreturn rfl (Or.inl rfl) dX8_fits_129 ⟨_, rfl, (Or.inl rfl), o_ret h⟩
    · have h := o_if_t c1 h
      refine s_mask [false, false, true, true, false, false, false, false, false, false, true, true] (L' := [none, none, some (.int x2), some (.int x3), none, none, none, none, none, none, some (.int x10), some (.int x11)]) rfl ?_
      exact dnX8_fits_j100 hX  h
set_option maxRecDepth 20000 in
theorem dnX8_fits_j74 {X : o_Cx} (hX : o_ok X) {d : Nat} {x2 : Int32} {x3 : Int32} {x4 : Int32} {x5 : Int32} {x8 : Int32} {x9 : Int32} {x10 : Int32} {x11 : Int32} {μ0 : o_Mem} {q : Int32 → o_Mem → Prop}  (h : o_Post (fX8_fits_j74 (o_rf X) x2 x3 x4 x5 x8 x9 x10 x11 μ0) q) : o_Ev X (d + 0) mX8_fits 74 [none, none, some (.int x2), some (.int x3), some (.int x4), some (.int x5), none, none, some (.int x8), some (.int x9), some (.int x10), some (.int x11)] [] μ0 (o_QZ q) := by
  unfold fX8_fits_j74 at h
  refine s_iload dX8_fits_74 rfl ?_
  refine s_iconst dX8_fits_76 kI_m1 ?_
  refine s_icmp_eq (tgt := 87) dX8_fits_77 rfl (fun c1 => ?_) (fun c1 => ?_)
  · have h := o_if_t c1 h
    refine s_mask [false, false, true, true, false, true, false, false, false, true, true, true] (L' := [none, none, some (.int x2), some (.int x3), none, some (.int x5), none, none, none, some (.int x9), some (.int x10), some (.int x11)]) rfl ?_
    exact dnX8_fits_j87 hX  h
  · have h := o_if_f c1 h
    refine s_iload dX8_fits_80 rfl ?_
    refine s_iload dX8_fits_82 rfl ?_
    refine s_icmp_le (tgt := 128) dX8_fits_84 rfl (fun c1 => ?_) (fun c1 => ?_)
    · have h := o_if_t c1 h
      refine s_iconst dX8_fits_128 kI_0 ?_
      exact s_zreturn rfl (Or.inl rfl) dX8_fits_129 ⟨_, rfl, (Or.inl rfl), o_ret h⟩
    · have h := o_if_f c1 h
      refine s_mask [false, false, true, true, false, true, false, false, false, true, true, true] (L' := [none, none, some (.int x2), some (.int x3), none, some (.int x5), none, none, none, some (.int x9), some (.int x10), some (.int x11)]) rfl ?_
      exact dnX8_fits_j87 hX  h
set_option maxRecDepth 20000 in
theorem dnX8_fits {X : o_Cx} (hX : o_ok X) {d : Nat} {a0 : Nat} {x1 : Int32} {x2 : Int32} {x3 : Int32} {x4 : Int32} {x5 : Int32} {μ0 : o_Mem} {q : Int32 → o_Mem → Prop} (h0 : o_is X a0 (.inl 8)) (h : o_Post (fX8_fits (o_rf X) a0 x1 x2 x3 x4 x5 μ0) q) : o_Ev X (d + 0) mX8_fits 0 [some (.ref (o_ad X a0)), some (.int x1), some (.int x2), some (.int x3), some (.int x4), some (.int x5), none, none, none, none, none, none] [] μ0 (o_QZ q) := by
  unfold fX8_fits at h
  refine s_iload_n (i := 1) dX8_fits_0 rfl rfl ?_
  refine s_bipush dX8_fits_1 kB_6 ?_
  refine s_imul dX8_fits_3 ?_
  refine s_istore dX8_fits_4 (Nat.le_of_ble_eq_true rfl) rfl ?_
  refine s_aload_n (i := 0) dX8_fits_6 rfl rfl ?_
  refine s_getR hX h0 flX8_25 rfl dX8_fits_7 (fun (g1 : o_is X (o_rf X a0 12) (.inr (0, 48))) => ?_)
  refine s_iload dX8_fits_10 rfl ?_
  refine s_iconst dX8_fits_12 kI_1 ?_
  refine s_iadd dX8_fits_13 ?_
  have hc := o_ck_c h
  have h := o_ck_k h
  refine s_ialdK g1 hc rfl dX8_fits_14 ?_
  refine s_istore dX8_fits_15 (Nat.le_of_ble_eq_true rfl) rfl ?_
  refine s_aload_n (i := 0) dX8_fits_17 rfl rfl ?_
  refine s_getR hX h0 flX8_25 rfl dX8_fits_18 (fun (g2 : o_is X (o_rf X a0 12) (.inr (0, 48))) => ?_)
  refine s_iload dX8_fits_21 rfl ?_
  refine s_iconst dX8_fits_23 kI_2 ?_
  refine s_iadd dX8_fits_24 ?_
  have hc := o_ck_c h
  have h := o_ck_k h
  refine s_ialdK g2 hc rfl dX8_fits_25 ?_
  refine s_istore dX8_fits_26 (Nat.le_of_ble_eq_true rfl) rfl ?_
  refine s_aload_n (i := 0) dX8_fits_28 rfl rfl ?_
  refine s_getR hX h0 flX8_25 rfl dX8_fits_29 (fun (g3 : o_is X (o_rf X a0 12) (.inr (0, 48))) => ?_)
  refine s_iload dX8_fits_32 rfl ?_
  refine s_iconst dX8_fits_34 kI_3 ?_
  refine s_iadd dX8_fits_35 ?_
  have hc := o_ck_c h
  have h := o_ck_k h
  refine s_ialdK g3 hc rfl dX8_fits_36 ?_
  refine s_istore dX8_fits_37 (Nat.le_of_ble_eq_true rfl) rfl ?_
  refine s_aload_n (i := 0) dX8_fits_39 rfl rfl ?_
  refine s_getR hX h0 flX8_25 rfl dX8_fits_40 (fun (g4 : o_is X (o_rf X a0 12) (.inr (0, 48))) => ?_)
  refine s_iload dX8_fits_43 rfl ?_
  refine s_iconst dX8_fits_45 kI_4 ?_
  refine s_iadd dX8_fits_46 ?_
  have hc := o_ck_c h
  have h := o_ck_k h
  refine s_ialdK g4 hc rfl dX8_fits_47 ?_
  refine s_istore dX8_fits_48 (Nat.le_of_ble_eq_true rfl) rfl ?_
  refine s_aload_n (i := 0) dX8_fits_50 rfl rfl ?_
  refine s_getR hX h0 flX8_25 rfl dX8_fits_51 (fun (g5 : o_is X (o_rf X a0 12) (.inr (0, 48))) => ?_)
  refine s_iload dX8_fits_54 rfl ?_
  refine s_iconst dX8_fits_56 kI_5 ?_
  refine s_iadd dX8_fits_57 ?_
  have hc := o_ck_c h
  have h := o_ck_k h
  refine s_ialdK g5 hc rfl dX8_fits_58 ?_
  refine s_istore dX8_fits_59 (Nat.le_of_ble_eq_true rfl) rfl ?_
  refine s_iload dX8_fits_61 rfl ?_
  refine s_iconst dX8_fits_63 kI_m1 ?_
  refine s_icmp_eq (tgt := 74) dX8_fits_64 rfl (fun c1 => ?_) (fun c1 => ?_)
  · have h := o_if_t c1 h
    refine s_mask [false, false, true, true, true, true, false, false, true, true, true, true] (L' := [none, none, some (.int x2), some (.int x3), some (.int x4), some (.int x5), none, none, some (.int (μ0.1 (o_rf X a0 12) (((x1 * 6) + 2)).toNatClampNeg)), some (.int (μ0.1 (o_rf X a0 12) (((x1 * 6) + 3)).toNatClampNeg)), some (.int (μ0.1 (o_rf X a0 12) (((x1 * 6) + 4)).toNatClampNeg)), some (.int (μ0.1 (o_rf X a0 12) (((x1 * 6) + 5)).toNatClampNeg))]) rfl ?_
    exact dnX8_fits_j74 hX  h
  · have h := o_if_f c1 h
    refine s_iload dX8_fits_67 rfl ?_
    refine s_iload dX8_fits_69 rfl ?_
    refine s_icmp_ge (tgt := 128) dX8_fits_71 rfl (fun c1 => ?_) (fun c1 => ?_)
    · have h := o_if_t c1 h
      refine s_iconst dX8_fits_128 kI_0 ?_
      exact s_zreturn rfl (Or.inl rfl) dX8_fits_129 ⟨_, rfl, (Or.inl rfl), o_ret h⟩
    · have h := o_if_f c1 h
      refine s_mask [false, false, true, true, true, true, false, false, true, true, true, true] (L' := [none, none, some (.int x2), some (.int x3), some (.int x4), some (.int x5), none, none, some (.int (μ0.1 (o_rf X a0 12) (((x1 * 6) + 2)).toNatClampNeg)), some (.int (μ0.1 (o_rf X a0 12) (((x1 * 6) + 3)).toNatClampNeg)), some (.int (μ0.1 (o_rf X a0 12) (((x1 * 6) + 4)).toNatClampNeg)), some (.int (μ0.1 (o_rf X a0 12) (((x1 * 6) + 5)).toNatClampNeg))]) rfl ?_
      exact dnX8_fits_j74 hX  h
theorem dX8_firstFit_0 : decode cX8_firstFit 0 = .ok (.iconst 0, 1) := by decide +kernel
theorem dX8_firstFit_1 : decode cX8_firstFit 1 = .ok (.istore 5, 2) := by decide +kernel
theorem dX8_firstFit_3 : decode cX8_firstFit 3 = .ok (.iload 5, 2) := by decide +kernel
theorem dX8_firstFit_5 : decode cX8_firstFit 5 = .ok (.aload_n 0, 1) := by decide +kernel
theorem dX8_firstFit_6 : decode cX8_firstFit 6 = .ok (.getfield 57, 3) := by decide +kernel
theorem dX8_firstFit_9 : decode cX8_firstFit 9 = .ok (.if_icmp .ge 26, 3) := by decide +kernel
theorem dX8_firstFit_12 : decode cX8_firstFit 12 = .ok (.aload_n 0, 1) := by decide +kernel
theorem dX8_firstFit_13 : decode cX8_firstFit 13 = .ok (.iload 5, 2) := by decide +kernel
theorem dX8_firstFit_15 : decode cX8_firstFit 15 = .ok (.iload_n 1, 1) := by decide +kernel
theorem dX8_firstFit_16 : decode cX8_firstFit 16 = .ok (.iload_n 2, 1) := by decide +kernel
theorem dX8_firstFit_17 : decode cX8_firstFit 17 = .ok (.iload_n 3, 1) := by decide +kernel
theorem dX8_firstFit_18 : decode cX8_firstFit 18 = .ok (.iload 4, 2) := by decide +kernel
theorem dX8_firstFit_20 : decode cX8_firstFit 20 = .ok (.invokevirtual 117, 3) := by decide +kernel
theorem dX8_firstFit_23 : decode cX8_firstFit 23 = .ok (.ifCond .eq 6, 3) := by decide +kernel
theorem dX8_firstFit_26 : decode cX8_firstFit 26 = .ok (.iload 5, 2) := by decide +kernel
theorem dX8_firstFit_28 : decode cX8_firstFit 28 = .ok (.ireturn, 1) := by decide +kernel
theorem dX8_firstFit_29 : decode cX8_firstFit 29 = .ok (.iinc 5 1, 3) := by decide +kernel
theorem dX8_firstFit_32 : decode cX8_firstFit 32 = .ok (.goto (-29), 3) := by decide +kernel
theorem dX8_firstFit_35 : decode cX8_firstFit 35 = .ok (.iconst (-1), 1) := by decide +kernel
theorem dX8_firstFit_36 : decode cX8_firstFit 36 = .ok (.ireturn, 1) := by decide +kernel
noncomputable def fX8_firstFit_s3 (rf : Nat → Nat → Nat) (a0 : Nat) (x1 : Int32) (x2 : Int32) (x3 : Int32) (x4 : Int32) (τ3 : Int32) (μ0 : o_Mem) : Option ((Nat × (Int32)) × o_Mem) :=
  if (μ0.1 a0 3) ≤ τ3 then (
    some ((35, 0), μ0))
  else (
    o_bd (fX8_fits rf a0 τ3 x1 x2 x3 x4 μ0) fun r1 μ1 =>
    if r1 = 0 then (
      some ((3, (τ3 + 1)), μ1))
    else (
      some ((26, τ3), μ1)))
noncomputable def fX8_firstFit (rf : Nat → Nat → Nat) (a0 : Nat) (x1 : Int32) (x2 : Int32) (x3 : Int32) (x4 : Int32) (μ0 : o_Mem) : Option (Int32 × o_Mem) :=
  o_bd (o_lp 3 (fX8_firstFit_s3 rf a0 x1 x2 x3 x4) o_fuel (0 : Int32) μ0) fun ex1 μ1 =>
  if ex1.1 = 26 then (
    some (ex1.2, μ1))
  else
  if ex1.1 = 35 then (
    some ((-1), μ1))
  else
    none
set_option maxRecDepth 20000 in
theorem dnX8_firstFit_s3 {X : o_Cx} (hX : o_ok X) {d : Nat} {a0 : Nat} {x1 : Int32} {x2 : Int32} {x3 : Int32} {x4 : Int32} {τ3 : Int32} {μ0 : o_Mem} {K : (Nat × (Int32)) → o_Mem → Prop} {Q : Option Value → o_Mem → Prop} (h0 : o_is X a0 (.inl 8)) (h : o_Post (fX8_firstFit_s3 (o_rf X) a0 x1 x2 x3 x4 τ3 μ0) K) (kh : ∀ (τ3 : Int32) (μ : o_Mem), K (3, τ3) μ → o_Ev X (d + 1) mX8_firstFit 3 [some (.ref (o_ad X a0)), some (.int x1), some (.int x2), some (.int x3), some (.int x4), some (.int τ3)] [] μ Q) (k26 : ∀ (τ3 : Int32) (μ : o_Mem), K (26, τ3) μ → o_Ev X (d + 1) mX8_firstFit 26 [none, none, none, none, none, some (.int τ3)] [] μ Q) (k35 : ∀ (τ3 : Int32) (μ : o_Mem), K (35, τ3) μ → o_Ev X (d + 1) mX8_firstFit 35 [none, none, none, none, none, none] [] μ Q) : o_Ev X (d + 1) mX8_firstFit 3 [some (.ref (o_ad X a0)), some (.int x1), some (.int x2), some (.int x3), some (.int x4), some (.int τ3)] [] μ0 Q := by
  unfold fX8_firstFit_s3 at h
  refine s_iload dX8_firstFit_3 rfl ?_
  refine s_aload_n (i := 0) dX8_firstFit_5 rfl rfl ?_
  refine s_getI h0 flX8_57 rfl dX8_firstFit_6 ?_
  refine s_icmp_ge (tgt := 35) dX8_firstFit_9 rfl (fun c1 => ?_) (fun c1 => ?_)
  · have h := o_if_t c1 h
    refine s_mask [false, false, false, false, false, false] (L' := [none, none, none, none, none, none]) rfl ?_
    exact k35 0 _ (o_ret h)
  · have h := o_if_f c1 h
    refine s_aload_n (i := 0) dX8_firstFit_12 rfl rfl ?_
    refine s_iload dX8_firstFit_13 rfl ?_
    refine s_iload_n (i := 1) dX8_firstFit_15 rfl rfl ?_
    refine s_iload_n (i := 2) dX8_firstFit_16 rfl rfl ?_
    refine s_iload_n (i := 3) dX8_firstFit_17 rfl rfl ?_
    refine s_iload dX8_firstFit_18 rfl ?_
    refine s_callVz (C := mX8_fits) (As := [.int τ3, .int x1, .int x2, .int x3, .int x4]) (rest := []) (L0 := [some (.ref (o_ad X a0)), some (.int τ3), some (.int x1), some (.int x2), some (.int x3), some (.int x4), none, none, none, none, none, none]) hX h0 clX8_117 dX8_firstFit_20 rfl rfl (Nat.le_of_ble_eq_true rfl) (Nat.le_of_ble_eq_true rfl) (dnX8_fits hX h0 (o_bdp h)) (fun r1 μ1 zr1 h => ?_)
    refine s_if_eq (tgt := 29) dX8_firstFit_23 rfl (fun c1 => ?_) (fun c1 => ?_)
    · have h := o_if_t c1 h
      refine s_iinc (v := (τ3 + 1)) dX8_firstFit_29 rfl rfl (Nat.le_of_ble_eq_true rfl) rfl ?_
      refine s_goto (tgt := 3) dX8_firstFit_32 rfl ?_
      refine s_mask [true, true, true, true, true, true] (L' := [some (.ref (o_ad X a0)), some (.int x1), some (.int x2), some (.int x3), some (.int x4), some (.int (τ3 + 1))]) rfl ?_
      exact kh (τ3 + 1) _ (o_ret h)
    · have h := o_if_f c1 h
      refine s_mask [false, false, false, false, false, true] (L' := [none, none, none, none, none, some (.int τ3)]) rfl ?_
      exact k26 τ3 _ (o_ret h)
set_option maxRecDepth 20000 in
theorem dnX8_firstFit {X : o_Cx} (hX : o_ok X) {d : Nat} {a0 : Nat} {x1 : Int32} {x2 : Int32} {x3 : Int32} {x4 : Int32} {μ0 : o_Mem} {q : Int32 → o_Mem → Prop} (h0 : o_is X a0 (.inl 8)) (h : o_Post (fX8_firstFit (o_rf X) a0 x1 x2 x3 x4 μ0) q) : o_Ev X (d + 1) mX8_firstFit 0 [some (.ref (o_ad X a0)), some (.int x1), some (.int x2), some (.int x3), some (.int x4), none] [] μ0 (o_QI q) := by
  unfold fX8_firstFit at h
  refine s_iconst dX8_firstFit_0 kI_0 ?_
  refine s_istore dX8_firstFit_1 (Nat.le_of_ble_eq_true rfl) rfl ?_
  refine s_mask [true, true, true, true, true, true] (L' := [some (.ref (o_ad X a0)), some (.int x1), some (.int x2), some (.int x3), some (.int x4), some (.int 0)]) rfl ?_
  refine o_lp_ev (fun τ3 => [some (.ref (o_ad X a0)), some (.int x1), some (.int x2), some (.int x3), some (.int x4), some (.int τ3)]) (fun τ3 μ _K h kv ke3 => dnX8_firstFit_s3 hX h0 h kv (fun τ3 μ1 h => ?_) (fun τ3 μ1 h => ?_)) o_fuel 0 μ0 (o_bdp h)
  · have h := o_if_t rfl (ke3 (26, τ3) μ1 (o_ne rfl) h)
    refine s_iload dX8_firstFit_26 rfl ?_
    exact s_ireturn rfl dX8_firstFit_28 ⟨_, rfl, o_ret h⟩
  · have h := o_if_t rfl (o_if_f (o_ne rfl) (ke3 (35, τ3) μ1 (o_ne rfl) h))
    refine s_iconst dX8_firstFit_35 kI_m1 ?_
    exact s_ireturn rfl dX8_firstFit_36 ⟨_, rfl, o_ret h⟩
theorem dX8_strikeBy_0 : decode cX8_strikeBy 0 = .ok (.iload_n 1, 1) := by decide +kernel
theorem dX8_strikeBy_1 : decode cX8_strikeBy 1 = .ok (.iconst (-1), 1) := by decide +kernel
theorem dX8_strikeBy_2 : decode cX8_strikeBy 2 = .ok (.if_icmp .ne 7, 3) := by decide +kernel
theorem dX8_strikeBy_5 : decode cX8_strikeBy 5 = .ok (.iconst (-1), 1) := by decide +kernel
theorem dX8_strikeBy_6 : decode cX8_strikeBy 6 = .ok (.goto 12, 3) := by decide +kernel
theorem dX8_strikeBy_9 : decode cX8_strikeBy 9 = .ok (.aload_n 0, 1) := by decide +kernel
theorem dX8_strikeBy_10 : decode cX8_strikeBy 10 = .ok (.getfield 25, 3) := by decide +kernel
theorem dX8_strikeBy_13 : decode cX8_strikeBy 13 = .ok (.iload_n 1, 1) := by decide +kernel
theorem dX8_strikeBy_14 : decode cX8_strikeBy 14 = .ok (.bipush 6, 2) := by decide +kernel
theorem dX8_strikeBy_16 : decode cX8_strikeBy 16 = .ok (.imul, 1) := by decide +kernel
theorem dX8_strikeBy_17 : decode cX8_strikeBy 17 = .ok (.iaload, 1) := by decide +kernel
theorem dX8_strikeBy_18 : decode cX8_strikeBy 18 = .ok (.ireturn, 1) := by decide +kernel
noncomputable def fX8_strikeBy (rf : Nat → Nat → Nat) (a0 : Nat) (x1 : Int32) (μ0 : o_Mem) : Option (Int32 × o_Mem) :=
  if x1 = (-1) then (
    some ((-1), μ0))
  else (
    o_ck (0 ≤ ((x1 * 6)).toInt ∧ ((x1 * 6)).toInt < 48) <|
    some ((μ0.1 (rf a0 12) ((x1 * 6)).toNatClampNeg), μ0))
set_option maxRecDepth 20000 in
theorem dnX8_strikeBy {X : o_Cx} (hX : o_ok X) {d : Nat} {a0 : Nat} {x1 : Int32} {μ0 : o_Mem} {q : Int32 → o_Mem → Prop} (h0 : o_is X a0 (.inl 8)) (h : o_Post (fX8_strikeBy (o_rf X) a0 x1 μ0) q) : o_Ev X (d + 0) mX8_strikeBy 0 [some (.ref (o_ad X a0)), some (.int x1)] [] μ0 (o_QI q) := by
  unfold fX8_strikeBy at h
  refine s_iload_n (i := 1) dX8_strikeBy_0 rfl rfl ?_
  refine s_iconst dX8_strikeBy_1 kI_m1 ?_
  refine s_icmp_ne (tgt := 9) dX8_strikeBy_2 rfl (fun c1 => ?_) (fun c1 => ?_)
  · have h := o_if_f c1 h
    refine s_aload_n (i := 0) dX8_strikeBy_9 rfl rfl ?_
    refine s_getR hX h0 flX8_25 rfl dX8_strikeBy_10 (fun (g1 : o_is X (o_rf X a0 12) (.inr (0, 48))) => ?_)
    refine s_iload_n (i := 1) dX8_strikeBy_13 rfl rfl ?_
    refine s_bipush dX8_strikeBy_14 kB_6 ?_
    refine s_imul dX8_strikeBy_16 ?_
    have hc := o_ck_c h
    have h := o_ck_k h
    refine s_ialdK g1 hc rfl dX8_strikeBy_17 ?_
    exact s_ireturn rfl dX8_strikeBy_18 ⟨_, rfl, o_ret h⟩
  · have h := o_if_t c1 h
    refine s_iconst dX8_strikeBy_5 kI_m1 ?_
    refine s_goto (tgt := 18) dX8_strikeBy_6 rfl ?_
    exact s_ireturn rfl dX8_strikeBy_18 ⟨_, rfl, o_ret h⟩
theorem dX8_worthBy_0 : decode cX8_worthBy 0 = .ok (.aload_n 0, 1) := by decide +kernel
theorem dX8_worthBy_1 : decode cX8_worthBy 1 = .ok (.iload_n 1, 1) := by decide +kernel
theorem dX8_worthBy_2 : decode cX8_worthBy 2 = .ok (.invokevirtual 125, 3) := by decide +kernel
theorem dX8_worthBy_5 : decode cX8_worthBy 5 = .ok (.istore_n 2, 1) := by decide +kernel
theorem dX8_worthBy_6 : decode cX8_worthBy 6 = .ok (.iload_n 2, 1) := by decide +kernel
theorem dX8_worthBy_7 : decode cX8_worthBy 7 = .ok (.iconst (-1), 1) := by decide +kernel
theorem dX8_worthBy_8 : decode cX8_worthBy 8 = .ok (.if_icmp .ne 7, 3) := by decide +kernel
theorem dX8_worthBy_11 : decode cX8_worthBy 11 = .ok (.iconst 0, 1) := by decide +kernel
theorem dX8_worthBy_12 : decode cX8_worthBy 12 = .ok (.goto 9, 3) := by decide +kernel
theorem dX8_worthBy_15 : decode cX8_worthBy 15 = .ok (.aload_n 0, 1) := by decide +kernel
theorem dX8_worthBy_16 : decode cX8_worthBy 16 = .ok (.getfield 15, 3) := by decide +kernel
theorem dX8_worthBy_19 : decode cX8_worthBy 19 = .ok (.iload_n 2, 1) := by decide +kernel
theorem dX8_worthBy_20 : decode cX8_worthBy 20 = .ok (.iaload, 1) := by decide +kernel
theorem dX8_worthBy_21 : decode cX8_worthBy 21 = .ok (.ireturn, 1) := by decide +kernel
noncomputable def fX8_worthBy (rf : Nat → Nat → Nat) (a0 : Nat) (x1 : Int32) (μ0 : o_Mem) : Option (Int32 × o_Mem) :=
  o_bd (fX8_strikeBy rf a0 x1 μ0) fun r1 μ1 =>
  if r1 = (-1) then (
    some (0, μ1))
  else (
    o_ck (0 ≤ (r1).toInt ∧ (r1).toInt < 6) <|
    some ((μ1.1 (rf a0 9) r1.toNatClampNeg), μ1))
set_option maxRecDepth 20000 in
theorem dnX8_worthBy {X : o_Cx} (hX : o_ok X) {d : Nat} {a0 : Nat} {x1 : Int32} {μ0 : o_Mem} {q : Int32 → o_Mem → Prop} (h0 : o_is X a0 (.inl 8)) (h : o_Post (fX8_worthBy (o_rf X) a0 x1 μ0) q) : o_Ev X (d + 1) mX8_worthBy 0 [some (.ref (o_ad X a0)), some (.int x1), none] [] μ0 (o_QI q) := by
  unfold fX8_worthBy at h
  refine s_aload_n (i := 0) dX8_worthBy_0 rfl rfl ?_
  refine s_iload_n (i := 1) dX8_worthBy_1 rfl rfl ?_
  refine s_callVi (C := mX8_strikeBy) (As := [.int x1]) (rest := []) (L0 := [some (.ref (o_ad X a0)), some (.int x1)]) hX h0 clX8_125 dX8_worthBy_2 rfl rfl (Nat.le_of_ble_eq_true rfl) (Nat.le_of_ble_eq_true rfl) (dnX8_strikeBy hX h0 (o_bdp h)) (fun r1 μ1 h => ?_)
  refine s_istore_n (i := 2) dX8_worthBy_5 rfl (Nat.le_of_ble_eq_true rfl) rfl ?_
  refine s_iload_n (i := 2) dX8_worthBy_6 rfl rfl ?_
  refine s_iconst dX8_worthBy_7 kI_m1 ?_
  refine s_icmp_ne (tgt := 15) dX8_worthBy_8 rfl (fun c1 => ?_) (fun c1 => ?_)
  · have h := o_if_f c1 h
    refine s_aload_n (i := 0) dX8_worthBy_15 rfl rfl ?_
    refine s_getR hX h0 flX8_15 rfl dX8_worthBy_16 (fun (g1 : o_is X (o_rf X a0 9) (.inr (0, 6))) => ?_)
    refine s_iload_n (i := 2) dX8_worthBy_19 rfl rfl ?_
    have hc := o_ck_c h
    have h := o_ck_k h
    refine s_ialdK g1 hc rfl dX8_worthBy_20 ?_
    exact s_ireturn rfl dX8_worthBy_21 ⟨_, rfl, o_ret h⟩
  · have h := o_if_t c1 h
    refine s_iconst dX8_worthBy_11 kI_0 ?_
    refine s_goto (tgt := 21) dX8_worthBy_12 rfl ?_
    exact s_ireturn rfl dX8_worthBy_21 ⟨_, rfl, o_ret h⟩
theorem dX8_lastFit_0 : decode cX8_lastFit 0 = .ok (.aload_n 0, 1) := by decide +kernel
theorem dX8_lastFit_1 : decode cX8_lastFit 1 = .ok (.getfield 57, 3) := by decide +kernel
theorem dX8_lastFit_4 : decode cX8_lastFit 4 = .ok (.iconst 1, 1) := by decide +kernel
theorem dX8_lastFit_5 : decode cX8_lastFit 5 = .ok (.isub, 1) := by decide +kernel
theorem dX8_lastFit_6 : decode cX8_lastFit 6 = .ok (.istore 5, 2) := by decide +kernel
theorem dX8_lastFit_8 : decode cX8_lastFit 8 = .ok (.iload 5, 2) := by decide +kernel
theorem dX8_lastFit_10 : decode cX8_lastFit 10 = .ok (.ifCond .lt 26, 3) := by decide +kernel
theorem dX8_lastFit_13 : decode cX8_lastFit 13 = .ok (.aload_n 0, 1) := by decide +kernel
theorem dX8_lastFit_14 : decode cX8_lastFit 14 = .ok (.iload 5, 2) := by decide +kernel
theorem dX8_lastFit_16 : decode cX8_lastFit 16 = .ok (.iload_n 1, 1) := by decide +kernel
theorem dX8_lastFit_17 : decode cX8_lastFit 17 = .ok (.iload_n 2, 1) := by decide +kernel
theorem dX8_lastFit_18 : decode cX8_lastFit 18 = .ok (.iload_n 3, 1) := by decide +kernel
theorem dX8_lastFit_19 : decode cX8_lastFit 19 = .ok (.iload 4, 2) := by decide +kernel
theorem dX8_lastFit_21 : decode cX8_lastFit 21 = .ok (.invokevirtual 117, 3) := by decide +kernel
theorem dX8_lastFit_24 : decode cX8_lastFit 24 = .ok (.ifCond .eq 6, 3) := by decide +kernel
theorem dX8_lastFit_27 : decode cX8_lastFit 27 = .ok (.iload 5, 2) := by decide +kernel
theorem dX8_lastFit_29 : decode cX8_lastFit 29 = .ok (.ireturn, 1) := by decide +kernel
theorem dX8_lastFit_30 : decode cX8_lastFit 30 = .ok (.iinc 5 (-1), 3) := by decide +kernel
theorem dX8_lastFit_33 : decode cX8_lastFit 33 = .ok (.goto (-25), 3) := by decide +kernel
theorem dX8_lastFit_36 : decode cX8_lastFit 36 = .ok (.iconst (-1), 1) := by decide +kernel
theorem dX8_lastFit_37 : decode cX8_lastFit 37 = .ok (.ireturn, 1) := by decide +kernel
noncomputable def fX8_lastFit_s8 (rf : Nat → Nat → Nat) (a0 : Nat) (x1 : Int32) (x2 : Int32) (x3 : Int32) (x4 : Int32) (τ8 : Int32) (μ0 : o_Mem) : Option ((Nat × (Int32)) × o_Mem) :=
  if τ8 < 0 then (
    some ((36, 0), μ0))
  else (
    o_bd (fX8_fits rf a0 τ8 x1 x2 x3 x4 μ0) fun r1 μ1 =>
    if r1 = 0 then (
      some ((8, (τ8 + (-1))), μ1))
    else (
      some ((27, τ8), μ1)))
noncomputable def fX8_lastFit (rf : Nat → Nat → Nat) (a0 : Nat) (x1 : Int32) (x2 : Int32) (x3 : Int32) (x4 : Int32) (μ0 : o_Mem) : Option (Int32 × o_Mem) :=
  o_bd (o_lp 8 (fX8_lastFit_s8 rf a0 x1 x2 x3 x4) o_fuel (((μ0.1 a0 3) - 1) : Int32) μ0) fun ex1 μ1 =>
  if ex1.1 = 27 then (
    some (ex1.2, μ1))
  else
  if ex1.1 = 36 then (
    some ((-1), μ1))
  else
    none
set_option maxRecDepth 20000 in
theorem dnX8_lastFit_s8 {X : o_Cx} (hX : o_ok X) {d : Nat} {a0 : Nat} {x1 : Int32} {x2 : Int32} {x3 : Int32} {x4 : Int32} {τ8 : Int32} {μ0 : o_Mem} {K : (Nat × (Int32)) → o_Mem → Prop} {Q : Option Value → o_Mem → Prop} (h0 : o_is X a0 (.inl 8)) (h : o_Post (fX8_lastFit_s8 (o_rf X) a0 x1 x2 x3 x4 τ8 μ0) K) (kh : ∀ (τ8 : Int32) (μ : o_Mem), K (8, τ8) μ → o_Ev X (d + 1) mX8_lastFit 8 [some (.ref (o_ad X a0)), some (.int x1), some (.int x2), some (.int x3), some (.int x4), some (.int τ8)] [] μ Q) (k27 : ∀ (τ8 : Int32) (μ : o_Mem), K (27, τ8) μ → o_Ev X (d + 1) mX8_lastFit 27 [none, none, none, none, none, some (.int τ8)] [] μ Q) (k36 : ∀ (τ8 : Int32) (μ : o_Mem), K (36, τ8) μ → o_Ev X (d + 1) mX8_lastFit 36 [none, none, none, none, none, none] [] μ Q) : o_Ev X (d + 1) mX8_lastFit 8 [some (.ref (o_ad X a0)), some (.int x1), some (.int x2), some (.int x3), some (.int x4), some (.int τ8)] [] μ0 Q := by
  unfold fX8_lastFit_s8 at h
  refine s_iload dX8_lastFit_8 rfl ?_
  refine s_if_lt (tgt := 36) dX8_lastFit_10 rfl (fun c1 => ?_) (fun c1 => ?_)
  · have h := o_if_t c1 h
    refine s_mask [false, false, false, false, false, false] (L' := [none, none, none, none, none, none]) rfl ?_
    exact k36 0 _ (o_ret h)
  · have h := o_if_f c1 h
    refine s_aload_n (i := 0) dX8_lastFit_13 rfl rfl ?_
    refine s_iload dX8_lastFit_14 rfl ?_
    refine s_iload_n (i := 1) dX8_lastFit_16 rfl rfl ?_
    refine s_iload_n (i := 2) dX8_lastFit_17 rfl rfl ?_
    refine s_iload_n (i := 3) dX8_lastFit_18 rfl rfl ?_
    refine s_iload dX8_lastFit_19 rfl ?_
    refine s_callVz (C := mX8_fits) (As := [.int τ8, .int x1, .int x2, .int x3, .int x4]) (rest := []) (L0 := [some (.ref (o_ad X a0)), some (.int τ8), some (.int x1), some (.int x2), some (.int x3), some (.int x4), none, none, none, none, none, none]) hX h0 clX8_117 dX8_lastFit_21 rfl rfl (Nat.le_of_ble_eq_true rfl) (Nat.le_of_ble_eq_true rfl) (dnX8_fits hX h0 (o_bdp h)) (fun r1 μ1 zr1 h => ?_)
    refine s_if_eq (tgt := 30) dX8_lastFit_24 rfl (fun c1 => ?_) (fun c1 => ?_)
    · have h := o_if_t c1 h
      refine s_iinc (v := (τ8 + (-1))) dX8_lastFit_30 rfl rfl (Nat.le_of_ble_eq_true rfl) rfl ?_
      refine s_goto (tgt := 8) dX8_lastFit_33 rfl ?_
      refine s_mask [true, true, true, true, true, true] (L' := [some (.ref (o_ad X a0)), some (.int x1), some (.int x2), some (.int x3), some (.int x4), some (.int (τ8 + (-1)))]) rfl ?_
      exact kh (τ8 + (-1)) _ (o_ret h)
    · have h := o_if_f c1 h
      refine s_mask [false, false, false, false, false, true] (L' := [none, none, none, none, none, some (.int τ8)]) rfl ?_
      exact k27 τ8 _ (o_ret h)
set_option maxRecDepth 20000 in
theorem dnX8_lastFit {X : o_Cx} (hX : o_ok X) {d : Nat} {a0 : Nat} {x1 : Int32} {x2 : Int32} {x3 : Int32} {x4 : Int32} {μ0 : o_Mem} {q : Int32 → o_Mem → Prop} (h0 : o_is X a0 (.inl 8)) (h : o_Post (fX8_lastFit (o_rf X) a0 x1 x2 x3 x4 μ0) q) : o_Ev X (d + 1) mX8_lastFit 0 [some (.ref (o_ad X a0)), some (.int x1), some (.int x2), some (.int x3), some (.int x4), none] [] μ0 (o_QI q) := by
  unfold fX8_lastFit at h
  refine s_aload_n (i := 0) dX8_lastFit_0 rfl rfl ?_
  refine s_getI h0 flX8_57 rfl dX8_lastFit_1 ?_
  refine s_iconst dX8_lastFit_4 kI_1 ?_
  refine s_isub dX8_lastFit_5 ?_
  refine s_istore dX8_lastFit_6 (Nat.le_of_ble_eq_true rfl) rfl ?_
  refine s_mask [true, true, true, true, true, true] (L' := [some (.ref (o_ad X a0)), some (.int x1), some (.int x2), some (.int x3), some (.int x4), some (.int ((μ0.1 a0 3) - 1))]) rfl ?_
  refine o_lp_ev (fun τ8 => [some (.ref (o_ad X a0)), some (.int x1), some (.int x2), some (.int x3), some (.int x4), some (.int τ8)]) (fun τ8 μ _K h kv ke8 => dnX8_lastFit_s8 hX h0 h kv (fun τ8 μ1 h => ?_) (fun τ8 μ1 h => ?_)) o_fuel ((μ0.1 a0 3) - 1) μ0 (o_bdp h)
  · have h := o_if_t rfl (ke8 (27, τ8) μ1 (o_ne rfl) h)
    refine s_iload dX8_lastFit_27 rfl ?_
    exact s_ireturn rfl dX8_lastFit_29 ⟨_, rfl, o_ret h⟩
  · have h := o_if_t rfl (o_if_f (o_ne rfl) (ke8 (36, τ8) μ1 (o_ne rfl) h))
    refine s_iconst dX8_lastFit_36 kI_m1 ?_
    exact s_ireturn rfl dX8_lastFit_37 ⟨_, rfl, o_ret h⟩
theorem dX0_sit_0 : decode cX0_sit 0 = .ok (.aload_n 1, 1) := by decide +kernel
theorem dX0_sit_1 : decode cX0_sit 1 = .ok (.getfield 18, 3) := by decide +kernel
theorem dX0_sit_4 : decode cX0_sit 4 = .ok (.astore_n 2, 1) := by decide +kernel
theorem dX0_sit_5 : decode cX0_sit 5 = .ok (.aload_n 0, 1) := by decide +kernel
theorem dX0_sit_6 : decode cX0_sit 6 = .ok (.aload_n 2, 1) := by decide +kernel
theorem dX0_sit_7 : decode cX0_sit 7 = .ok (.getfield 24, 3) := by decide +kernel
theorem dX0_sit_10 : decode cX0_sit 10 = .ok (.putfield 30, 3) := by decide +kernel
theorem dX0_sit_13 : decode cX0_sit 13 = .ok (.iconst 0, 1) := by decide +kernel
theorem dX0_sit_14 : decode cX0_sit 14 = .ok (.istore_n 3, 1) := by decide +kernel
theorem dX0_sit_15 : decode cX0_sit 15 = .ok (.iload_n 3, 1) := by decide +kernel
theorem dX0_sit_16 : decode cX0_sit 16 = .ok (.aload_n 0, 1) := by decide +kernel
theorem dX0_sit_17 : decode cX0_sit 17 = .ok (.getfield 30, 3) := by decide +kernel
theorem dX0_sit_20 : decode cX0_sit 20 = .ok (.if_icmp .ge 85, 3) := by decide +kernel
theorem dX0_sit_23 : decode cX0_sit 23 = .ok (.aload_n 0, 1) := by decide +kernel
theorem dX0_sit_24 : decode cX0_sit 24 = .ok (.getfield 9, 3) := by decide +kernel
theorem dX0_sit_27 : decode cX0_sit 27 = .ok (.iload_n 3, 1) := by decide +kernel
theorem dX0_sit_28 : decode cX0_sit 28 = .ok (.aload_n 1, 1) := by decide +kernel
theorem dX0_sit_29 : decode cX0_sit 29 = .ok (.aload_n 1, 1) := by decide +kernel
theorem dX0_sit_30 : decode cX0_sit 30 = .ok (.aload_n 2, 1) := by decide +kernel
theorem dX0_sit_31 : decode cX0_sit 31 = .ok (.getfield 31, 3) := by decide +kernel
theorem dX0_sit_34 : decode cX0_sit 34 = .ok (.iload_n 3, 1) := by decide +kernel
theorem dX0_sit_35 : decode cX0_sit 35 = .ok (.iaload, 1) := by decide +kernel
theorem dX0_sit_36 : decode cX0_sit 36 = .ok (.aload_n 2, 1) := by decide +kernel
theorem dX0_sit_37 : decode cX0_sit 37 = .ok (.getfield 34, 3) := by decide +kernel
theorem dX0_sit_40 : decode cX0_sit 40 = .ok (.iload_n 3, 1) := by decide +kernel
theorem dX0_sit_41 : decode cX0_sit 41 = .ok (.iaload, 1) := by decide +kernel
theorem dX0_sit_42 : decode cX0_sit 42 = .ok (.aload_n 2, 1) := by decide +kernel
theorem dX0_sit_43 : decode cX0_sit 43 = .ok (.getfield 37, 3) := by decide +kernel
theorem dX0_sit_46 : decode cX0_sit 46 = .ok (.iload_n 3, 1) := by decide +kernel
theorem dX0_sit_47 : decode cX0_sit 47 = .ok (.iaload, 1) := by decide +kernel
theorem dX0_sit_48 : decode cX0_sit 48 = .ok (.aload_n 2, 1) := by decide +kernel
theorem dX0_sit_49 : decode cX0_sit 49 = .ok (.getfield 40, 3) := by decide +kernel
theorem dX0_sit_52 : decode cX0_sit 52 = .ok (.iload_n 3, 1) := by decide +kernel
theorem dX0_sit_53 : decode cX0_sit 53 = .ok (.iaload, 1) := by decide +kernel
theorem dX0_sit_54 : decode cX0_sit 54 = .ok (.invokevirtual 43, 3) := by decide +kernel
theorem dX0_sit_57 : decode cX0_sit 57 = .ok (.invokevirtual 47, 3) := by decide +kernel
theorem dX0_sit_60 : decode cX0_sit 60 = .ok (.iastore, 1) := by decide +kernel
theorem dX0_sit_61 : decode cX0_sit 61 = .ok (.aload_n 0, 1) := by decide +kernel
theorem dX0_sit_62 : decode cX0_sit 62 = .ok (.getfield 15, 3) := by decide +kernel
theorem dX0_sit_65 : decode cX0_sit 65 = .ok (.iload_n 3, 1) := by decide +kernel
theorem dX0_sit_66 : decode cX0_sit 66 = .ok (.aload_n 1, 1) := by decide +kernel
theorem dX0_sit_67 : decode cX0_sit 67 = .ok (.aload_n 1, 1) := by decide +kernel
theorem dX0_sit_68 : decode cX0_sit 68 = .ok (.aload_n 2, 1) := by decide +kernel
theorem dX0_sit_69 : decode cX0_sit 69 = .ok (.getfield 31, 3) := by decide +kernel
theorem dX0_sit_72 : decode cX0_sit 72 = .ok (.iload_n 3, 1) := by decide +kernel
theorem dX0_sit_73 : decode cX0_sit 73 = .ok (.iaload, 1) := by decide +kernel
theorem dX0_sit_74 : decode cX0_sit 74 = .ok (.aload_n 2, 1) := by decide +kernel
theorem dX0_sit_75 : decode cX0_sit 75 = .ok (.getfield 34, 3) := by decide +kernel
theorem dX0_sit_78 : decode cX0_sit 78 = .ok (.iload_n 3, 1) := by decide +kernel
theorem dX0_sit_79 : decode cX0_sit 79 = .ok (.iaload, 1) := by decide +kernel
theorem dX0_sit_80 : decode cX0_sit 80 = .ok (.aload_n 2, 1) := by decide +kernel
theorem dX0_sit_81 : decode cX0_sit 81 = .ok (.getfield 37, 3) := by decide +kernel
theorem dX0_sit_84 : decode cX0_sit 84 = .ok (.iload_n 3, 1) := by decide +kernel
theorem dX0_sit_85 : decode cX0_sit 85 = .ok (.iaload, 1) := by decide +kernel
theorem dX0_sit_86 : decode cX0_sit 86 = .ok (.aload_n 2, 1) := by decide +kernel
theorem dX0_sit_87 : decode cX0_sit 87 = .ok (.getfield 40, 3) := by decide +kernel
theorem dX0_sit_90 : decode cX0_sit 90 = .ok (.iload_n 3, 1) := by decide +kernel
theorem dX0_sit_91 : decode cX0_sit 91 = .ok (.iaload, 1) := by decide +kernel
theorem dX0_sit_92 : decode cX0_sit 92 = .ok (.invokevirtual 51, 3) := by decide +kernel
theorem dX0_sit_95 : decode cX0_sit 95 = .ok (.invokevirtual 47, 3) := by decide +kernel
theorem dX0_sit_98 : decode cX0_sit 98 = .ok (.iastore, 1) := by decide +kernel
theorem dX0_sit_99 : decode cX0_sit 99 = .ok (.iinc 3 1, 3) := by decide +kernel
theorem dX0_sit_102 : decode cX0_sit 102 = .ok (.goto (-87), 3) := by decide +kernel
theorem dX0_sit_105 : decode cX0_sit 105 = .ok (.return_, 1) := by decide +kernel
noncomputable def fX0_sit_s15 (rf : Nat → Nat → Nat) (a0 : Nat) (a1 : Nat) (a2 : Nat) (τ15 : Int32) (μ0 : o_Mem) : Option ((Nat × (Int32)) × o_Mem) :=
  if (μ0.1 a0 0) ≤ τ15 then (
    some ((105, 0), μ0))
  else (
    o_ck (0 ≤ (τ15).toInt ∧ (τ15).toInt < 12) <|
    o_ck (0 ≤ (τ15).toInt ∧ (τ15).toInt < 12) <|
    o_ck (0 ≤ (τ15).toInt ∧ (τ15).toInt < 12) <|
    o_ck (0 ≤ (τ15).toInt ∧ (τ15).toInt < 12) <|
    o_bd (fX8_firstFit rf a1 (μ0.1 (rf a2 1) τ15.toNatClampNeg) (μ0.1 (rf a2 2) τ15.toNatClampNeg) (μ0.1 (rf a2 3) τ15.toNatClampNeg) (μ0.1 (rf a2 4) τ15.toNatClampNeg) μ0) fun r1 μ1 =>
    o_bd (fX8_worthBy rf a1 r1 μ1) fun r2 μ2 =>
    o_ck (0 ≤ (τ15).toInt ∧ (τ15).toInt < 12) <|
    o_seq (o_wI μ2 (rf a0 1) τ15.toNatClampNeg r2) fun μ3 =>
    o_ck (0 ≤ (τ15).toInt ∧ (τ15).toInt < 12) <|
    o_ck (0 ≤ (τ15).toInt ∧ (τ15).toInt < 12) <|
    o_ck (0 ≤ (τ15).toInt ∧ (τ15).toInt < 12) <|
    o_ck (0 ≤ (τ15).toInt ∧ (τ15).toInt < 12) <|
    o_bd (fX8_lastFit rf a1 (μ3.1 (rf a2 1) τ15.toNatClampNeg) (μ3.1 (rf a2 2) τ15.toNatClampNeg) (μ3.1 (rf a2 3) τ15.toNatClampNeg) (μ3.1 (rf a2 4) τ15.toNatClampNeg) μ3) fun r3 μ4 =>
    o_bd (fX8_worthBy rf a1 r3 μ4) fun r4 μ5 =>
    o_ck (0 ≤ (τ15).toInt ∧ (τ15).toInt < 12) <|
    o_seq (o_wI μ5 (rf a0 2) τ15.toNatClampNeg r4) fun μ6 =>
    some ((15, (τ15 + 1)), μ6))
noncomputable def fX0_sit (rf : Nat → Nat → Nat) (a0 : Nat) (a1 : Nat) (μ0 : o_Mem) : Option (Unit × o_Mem) :=
  o_seq (o_wI μ0 a0 0 (μ0.1 (rf a1 15) 0)) fun μ1 =>
  o_bd (o_lp 15 (fX0_sit_s15 rf a0 a1 (rf a1 15)) o_fuel (0 : Int32) μ1) fun ex2 μ2 =>
  if ex2.1 = 105 then (
    some ((), μ2))
  else
    none
set_option maxRecDepth 20000 in
theorem dnX0_sit_s15 {X : o_Cx} (hX : o_ok X) {d : Nat} {a0 : Nat} {a1 : Nat} {a2 : Nat} {τ15 : Int32} {μ0 : o_Mem} {K : (Nat × (Int32)) → o_Mem → Prop} {Q : Option Value → o_Mem → Prop} (h0 : o_is X a0 (.inl 0)) (h1 : o_is X a1 (.inl 8)) (h2 : o_is X a2 (.inl 1)) (h : o_Post (fX0_sit_s15 (o_rf X) a0 a1 a2 τ15 μ0) K) (kh : ∀ (τ15 : Int32) (μ : o_Mem), K (15, τ15) μ → o_Ev X (d + 2) mX0_sit 15 [some (.ref (o_ad X a0)), some (.ref (o_ad X a1)), some (.ref (o_ad X a2)), some (.int τ15)] [] μ Q) (k105 : ∀ (τ15 : Int32) (μ : o_Mem), K (105, τ15) μ → o_Ev X (d + 2) mX0_sit 105 [none, none, none, none] [] μ Q) : o_Ev X (d + 2) mX0_sit 15 [some (.ref (o_ad X a0)), some (.ref (o_ad X a1)), some (.ref (o_ad X a2)), some (.int τ15)] [] μ0 Q := by
  unfold fX0_sit_s15 at h
  refine s_iload_n (i := 3) dX0_sit_15 rfl rfl ?_
  refine s_aload_n (i := 0) dX0_sit_16 rfl rfl ?_
  refine s_getI h0 flX0_30 rfl dX0_sit_17 ?_
  refine s_icmp_ge (tgt := 105) dX0_sit_20 rfl (fun c1 => ?_) (fun c1 => ?_)
  · have h := o_if_t c1 h
    refine s_mask [false, false, false, false] (L' := [none, none, none, none]) rfl ?_
    exact k105 0 _ (o_ret h)
  · have h := o_if_f c1 h
    refine s_aload_n (i := 0) dX0_sit_23 rfl rfl ?_
    refine s_getR hX h0 flX0_9 rfl dX0_sit_24 (fun (g1 : o_is X (o_rf X a0 1) (.inr (0, 12))) => ?_)
    refine s_iload_n (i := 3) dX0_sit_27 rfl rfl ?_
    refine s_aload_n (i := 1) dX0_sit_28 rfl rfl ?_
    refine s_aload_n (i := 1) dX0_sit_29 rfl rfl ?_
    refine s_aload_n (i := 2) dX0_sit_30 rfl rfl ?_
    refine s_getR hX h2 flX0_31 rfl dX0_sit_31 (fun (g2 : o_is X (o_rf X a2 1) (.inr (0, 12))) => ?_)
    refine s_iload_n (i := 3) dX0_sit_34 rfl rfl ?_
    have hc := o_ck_c h
    have h := o_ck_k h
    refine s_ialdK g2 hc rfl dX0_sit_35 ?_
    refine s_aload_n (i := 2) dX0_sit_36 rfl rfl ?_
    refine s_getR hX h2 flX0_34 rfl dX0_sit_37 (fun (g3 : o_is X (o_rf X a2 2) (.inr (0, 12))) => ?_)
    refine s_iload_n (i := 3) dX0_sit_40 rfl rfl ?_
    have hc := o_ck_c h
    have h := o_ck_k h
    refine s_ialdK g3 hc rfl dX0_sit_41 ?_
    refine s_aload_n (i := 2) dX0_sit_42 rfl rfl ?_
    refine s_getR hX h2 flX0_37 rfl dX0_sit_43 (fun (g4 : o_is X (o_rf X a2 3) (.inr (0, 12))) => ?_)
    refine s_iload_n (i := 3) dX0_sit_46 rfl rfl ?_
    have hc := o_ck_c h
    have h := o_ck_k h
    refine s_ialdK g4 hc rfl dX0_sit_47 ?_
    refine s_aload_n (i := 2) dX0_sit_48 rfl rfl ?_
    refine s_getR hX h2 flX0_40 rfl dX0_sit_49 (fun (g5 : o_is X (o_rf X a2 4) (.inr (0, 12))) => ?_)
    refine s_iload_n (i := 3) dX0_sit_52 rfl rfl ?_
    have hc := o_ck_c h
    have h := o_ck_k h
    refine s_ialdK g5 hc rfl dX0_sit_53 ?_
    refine s_callVi (C := mX8_firstFit) (As := [.int (μ0.1 (o_rf X a2 1) τ15.toNatClampNeg), .int (μ0.1 (o_rf X a2 2) τ15.toNatClampNeg), .int (μ0.1 (o_rf X a2 3) τ15.toNatClampNeg), .int (μ0.1 (o_rf X a2 4) τ15.toNatClampNeg)]) (rest := [.ref (o_ad X a1), .int τ15, .ref (o_ad X (o_rf X a0 1))]) (L0 := [some (.ref (o_ad X a1)), some (.int (μ0.1 (o_rf X a2 1) τ15.toNatClampNeg)), some (.int (μ0.1 (o_rf X a2 2) τ15.toNatClampNeg)), some (.int (μ0.1 (o_rf X a2 3) τ15.toNatClampNeg)), some (.int (μ0.1 (o_rf X a2 4) τ15.toNatClampNeg)), none]) hX h1 clX0_43 dX0_sit_54 rfl rfl (Nat.le_of_ble_eq_true rfl) (Nat.le_of_ble_eq_true rfl) (dnX8_firstFit hX h1 (o_bdp h)) (fun r1 μ1 h => ?_)
    refine s_callVi (C := mX8_worthBy) (As := [.int r1]) (rest := [.int τ15, .ref (o_ad X (o_rf X a0 1))]) (L0 := [some (.ref (o_ad X a1)), some (.int r1), none]) hX h1 clX0_47 dX0_sit_57 rfl rfl (Nat.le_of_ble_eq_true rfl) (Nat.le_of_ble_eq_true rfl) (dnX8_worthBy hX h1 (o_bdp h)) (fun r2 μ2 h => ?_)
    have hc := o_ck_c h
    have h := o_ck_k h
    refine s_iastK hX g1 hc rfl dX0_sit_60 (o_gen h (fun μ3 h => ?_))
    refine s_aload_n (i := 0) dX0_sit_61 rfl rfl ?_
    refine s_getR hX h0 flX0_15 rfl dX0_sit_62 (fun (g6 : o_is X (o_rf X a0 2) (.inr (0, 12))) => ?_)
    refine s_iload_n (i := 3) dX0_sit_65 rfl rfl ?_
    refine s_aload_n (i := 1) dX0_sit_66 rfl rfl ?_
    refine s_aload_n (i := 1) dX0_sit_67 rfl rfl ?_
    refine s_aload_n (i := 2) dX0_sit_68 rfl rfl ?_
    refine s_getR hX h2 flX0_31 rfl dX0_sit_69 (fun (g7 : o_is X (o_rf X a2 1) (.inr (0, 12))) => ?_)
    refine s_iload_n (i := 3) dX0_sit_72 rfl rfl ?_
    have hc := o_ck_c h
    have h := o_ck_k h
    refine s_ialdK g7 hc rfl dX0_sit_73 ?_
    refine s_aload_n (i := 2) dX0_sit_74 rfl rfl ?_
    refine s_getR hX h2 flX0_34 rfl dX0_sit_75 (fun (g8 : o_is X (o_rf X a2 2) (.inr (0, 12))) => ?_)
    refine s_iload_n (i := 3) dX0_sit_78 rfl rfl ?_
    have hc := o_ck_c h
    have h := o_ck_k h
    refine s_ialdK g8 hc rfl dX0_sit_79 ?_
    refine s_aload_n (i := 2) dX0_sit_80 rfl rfl ?_
    refine s_getR hX h2 flX0_37 rfl dX0_sit_81 (fun (g9 : o_is X (o_rf X a2 3) (.inr (0, 12))) => ?_)
    refine s_iload_n (i := 3) dX0_sit_84 rfl rfl ?_
    have hc := o_ck_c h
    have h := o_ck_k h
    refine s_ialdK g9 hc rfl dX0_sit_85 ?_
    refine s_aload_n (i := 2) dX0_sit_86 rfl rfl ?_
    refine s_getR hX h2 flX0_40 rfl dX0_sit_87 (fun (g10 : o_is X (o_rf X a2 4) (.inr (0, 12))) => ?_)
    refine s_iload_n (i := 3) dX0_sit_90 rfl rfl ?_
    have hc := o_ck_c h
    have h := o_ck_k h
    refine s_ialdK g10 hc rfl dX0_sit_91 ?_
    refine s_callVi (C := mX8_lastFit) (As := [.int (μ3.1 (o_rf X a2 1) τ15.toNatClampNeg), .int (μ3.1 (o_rf X a2 2) τ15.toNatClampNeg), .int (μ3.1 (o_rf X a2 3) τ15.toNatClampNeg), .int (μ3.1 (o_rf X a2 4) τ15.toNatClampNeg)]) (rest := [.ref (o_ad X a1), .int τ15, .ref (o_ad X (o_rf X a0 2))]) (L0 := [some (.ref (o_ad X a1)), some (.int (μ3.1 (o_rf X a2 1) τ15.toNatClampNeg)), some (.int (μ3.1 (o_rf X a2 2) τ15.toNatClampNeg)), some (.int (μ3.1 (o_rf X a2 3) τ15.toNatClampNeg)), some (.int (μ3.1 (o_rf X a2 4) τ15.toNatClampNeg)), none]) hX h1 clX0_51 dX0_sit_92 rfl rfl (Nat.le_of_ble_eq_true rfl) (Nat.le_of_ble_eq_true rfl) (dnX8_lastFit hX h1 (o_bdp h)) (fun r3 μ4 h => ?_)
    refine s_callVi (C := mX8_worthBy) (As := [.int r3]) (rest := [.int τ15, .ref (o_ad X (o_rf X a0 2))]) (L0 := [some (.ref (o_ad X a1)), some (.int r3), none]) hX h1 clX0_47 dX0_sit_95 rfl rfl (Nat.le_of_ble_eq_true rfl) (Nat.le_of_ble_eq_true rfl) (dnX8_worthBy hX h1 (o_bdp h)) (fun r4 μ5 h => ?_)
    have hc := o_ck_c h
    have h := o_ck_k h
    refine s_iastK hX g6 hc rfl dX0_sit_98 (o_gen h (fun μ6 h => ?_))
    refine s_iinc (v := (τ15 + 1)) dX0_sit_99 rfl rfl (Nat.le_of_ble_eq_true rfl) rfl ?_
    refine s_goto (tgt := 15) dX0_sit_102 rfl ?_
    refine s_mask [true, true, true, true] (L' := [some (.ref (o_ad X a0)), some (.ref (o_ad X a1)), some (.ref (o_ad X a2)), some (.int (τ15 + 1))]) rfl ?_
    exact kh (τ15 + 1) _ (o_ret h)
set_option maxRecDepth 20000 in
theorem dnX0_sit {X : o_Cx} (hX : o_ok X) {d : Nat} {a0 : Nat} {a1 : Nat} {μ0 : o_Mem} {q : Unit → o_Mem → Prop} (h0 : o_is X a0 (.inl 0)) (h1 : o_is X a1 (.inl 8)) (h : o_Post (fX0_sit (o_rf X) a0 a1 μ0) q) : o_Ev X (d + 2) mX0_sit 0 [some (.ref (o_ad X a0)), some (.ref (o_ad X a1)), none, none] [] μ0 (o_QU q) := by
  unfold fX0_sit at h
  refine s_aload_n (i := 1) dX0_sit_0 rfl rfl ?_
  refine s_getR hX h1 flX0_18 rfl dX0_sit_1 (fun (g1 : o_is X (o_rf X a1 15) (.inl 1)) => ?_)
  refine s_astore_n (i := 2) dX0_sit_4 rfl (Nat.le_of_ble_eq_true rfl) rfl ?_
  refine s_aload_n (i := 0) dX0_sit_5 rfl rfl ?_
  refine s_aload_n (i := 2) dX0_sit_6 rfl rfl ?_
  refine s_getI g1 flX0_24 rfl dX0_sit_7 ?_
  refine s_putI hX h0 fwX0_30 rfl dX0_sit_10 (o_gen h (fun μ1 h => ?_))
  refine s_iconst dX0_sit_13 kI_0 ?_
  refine s_istore_n (i := 3) dX0_sit_14 rfl (Nat.le_of_ble_eq_true rfl) rfl ?_
  refine s_mask [true, true, true, true] (L' := [some (.ref (o_ad X a0)), some (.ref (o_ad X a1)), some (.ref (o_ad X (o_rf X a1 15))), some (.int 0)]) rfl ?_
  refine o_lp_ev (fun τ15 => [some (.ref (o_ad X a0)), some (.ref (o_ad X a1)), some (.ref (o_ad X (o_rf X a1 15))), some (.int τ15)]) (fun τ15 μ _K h kv ke15 => dnX0_sit_s15 hX h0 h1 g1 h kv (fun τ15 μ2 h => ?_)) o_fuel 0 μ1 (o_bdp h)
  · have h := o_if_t rfl (ke15 (105, τ15) μ2 (o_ne rfl) h)
    exact s_return rfl dX0_sit_105 ⟨rfl, o_ret h⟩
theorem dX0_outcome_0 : decode cX0_outcome 0 = .ok (.aload_n 0, 1) := by decide +kernel
theorem dX0_outcome_1 : decode cX0_outcome 1 = .ok (.iconst 0, 1) := by decide +kernel
theorem dX0_outcome_2 : decode cX0_outcome 2 = .ok (.iload_n 1, 1) := by decide +kernel
theorem dX0_outcome_3 : decode cX0_outcome 3 = .ok (.iconst 0, 1) := by decide +kernel
theorem dX0_outcome_4 : decode cX0_outcome 4 = .ok (.invokevirtual 54, 3) := by decide +kernel
theorem dX0_outcome_7 : decode cX0_outcome 7 = .ok (.ireturn, 1) := by decide +kernel
noncomputable def fX0_outcome (rf : Nat → Nat → Nat) (a0 : Nat) (x1 : Int32) (μ0 : o_Mem) : Option (Int32 × o_Mem) :=
  o_bd (fX0_best rf a0 0 x1 0 μ0) fun r1 μ1 =>
  some (r1, μ1)
set_option maxRecDepth 20000 in
theorem dnX0_outcome {X : o_Cx} (hX : o_ok X) {d : Nat} {a0 : Nat} {x1 : Int32} {μ0 : o_Mem} {q : Int32 → o_Mem → Prop} (h0 : o_is X a0 (.inl 0)) (h : o_Post (fX0_outcome (o_rf X) a0 x1 μ0) q) : o_Ev X (d + 11) mX0_outcome 0 [some (.ref (o_ad X a0)), some (.int x1)] [] μ0 (o_QI q) := by
  unfold fX0_outcome at h
  refine s_aload_n (i := 0) dX0_outcome_0 rfl rfl ?_
  refine s_iconst dX0_outcome_1 kI_0 ?_
  refine s_iload_n (i := 1) dX0_outcome_2 rfl rfl ?_
  refine s_iconst dX0_outcome_3 kI_0 ?_
  refine s_callVi (C := mX0_best) (As := [.int 0, .int x1, .int 0]) (rest := []) (L0 := [some (.ref (o_ad X a0)), some (.int 0), some (.int x1), some (.int 0), none, none, none, none, none]) hX h0 clX0_54 dX0_outcome_4 rfl rfl (Nat.le_of_ble_eq_true rfl) (Nat.le_of_ble_eq_true rfl) (dnX0_best hX h0 (o_bdp h)) (fun r1 μ1 h => ?_)
  exact s_ireturn rfl dX0_outcome_7 ⟨_, rfl, o_ret h⟩
theorem dX0_firstTaken_0 : decode cX0_firstTaken 0 = .ok (.aload_n 0, 1) := by decide +kernel
theorem dX0_firstTaken_1 : decode cX0_firstTaken 1 = .ok (.iload_n 1, 1) := by decide +kernel
theorem dX0_firstTaken_2 : decode cX0_firstTaken 2 = .ok (.invokevirtual 58, 3) := by decide +kernel
theorem dX0_firstTaken_5 : decode cX0_firstTaken 5 = .ok (.istore_n 2, 1) := by decide +kernel
theorem dX0_firstTaken_6 : decode cX0_firstTaken 6 = .ok (.iconst 0, 1) := by decide +kernel
theorem dX0_firstTaken_7 : decode cX0_firstTaken 7 = .ok (.istore_n 3, 1) := by decide +kernel
theorem dX0_firstTaken_8 : decode cX0_firstTaken 8 = .ok (.iload_n 3, 1) := by decide +kernel
theorem dX0_firstTaken_9 : decode cX0_firstTaken 9 = .ok (.aload_n 0, 1) := by decide +kernel
theorem dX0_firstTaken_10 : decode cX0_firstTaken 10 = .ok (.getfield 30, 3) := by decide +kernel
theorem dX0_firstTaken_13 : decode cX0_firstTaken 13 = .ok (.if_icmp .ge 23, 3) := by decide +kernel
theorem dX0_firstTaken_16 : decode cX0_firstTaken 16 = .ok (.aload_n 0, 1) := by decide +kernel
theorem dX0_firstTaken_17 : decode cX0_firstTaken 17 = .ok (.iconst 0, 1) := by decide +kernel
theorem dX0_firstTaken_18 : decode cX0_firstTaken 18 = .ok (.iload_n 1, 1) := by decide +kernel
theorem dX0_firstTaken_19 : decode cX0_firstTaken 19 = .ok (.iconst 0, 1) := by decide +kernel
theorem dX0_firstTaken_20 : decode cX0_firstTaken 20 = .ok (.iload_n 3, 1) := by decide +kernel
theorem dX0_firstTaken_21 : decode cX0_firstTaken 21 = .ok (.invokevirtual 61, 3) := by decide +kernel
theorem dX0_firstTaken_24 : decode cX0_firstTaken 24 = .ok (.iload_n 2, 1) := by decide +kernel
theorem dX0_firstTaken_25 : decode cX0_firstTaken 25 = .ok (.if_icmp .ne 5, 3) := by decide +kernel
theorem dX0_firstTaken_28 : decode cX0_firstTaken 28 = .ok (.iload_n 3, 1) := by decide +kernel
theorem dX0_firstTaken_29 : decode cX0_firstTaken 29 = .ok (.ireturn, 1) := by decide +kernel
theorem dX0_firstTaken_30 : decode cX0_firstTaken 30 = .ok (.iinc 3 1, 3) := by decide +kernel
theorem dX0_firstTaken_33 : decode cX0_firstTaken 33 = .ok (.goto (-25), 3) := by decide +kernel
theorem dX0_firstTaken_36 : decode cX0_firstTaken 36 = .ok (.iconst (-1), 1) := by decide +kernel
theorem dX0_firstTaken_37 : decode cX0_firstTaken 37 = .ok (.ireturn, 1) := by decide +kernel
noncomputable def fX0_firstTaken_s8 (rf : Nat → Nat → Nat) (a0 : Nat) (x1 : Int32) (x2 : Int32) (τ8 : Int32) (μ0 : o_Mem) : Option ((Nat × (Int32)) × o_Mem) :=
  if (μ0.1 a0 0) ≤ τ8 then (
    some ((36, 0), μ0))
  else (
    o_bd (fX0_takenThen rf a0 0 x1 0 τ8 μ0) fun r1 μ1 =>
    if r1 = x2 then (
      some ((28, τ8), μ1))
    else (
      some ((8, (τ8 + 1)), μ1)))
noncomputable def fX0_firstTaken (rf : Nat → Nat → Nat) (a0 : Nat) (x1 : Int32) (μ0 : o_Mem) : Option (Int32 × o_Mem) :=
  o_bd (fX0_outcome rf a0 x1 μ0) fun r1 μ1 =>
  o_bd (o_lp 8 (fX0_firstTaken_s8 rf a0 x1 r1) o_fuel (0 : Int32) μ1) fun ex2 μ2 =>
  if ex2.1 = 28 then (
    some (ex2.2, μ2))
  else
  if ex2.1 = 36 then (
    some ((-1), μ2))
  else
    none
set_option maxRecDepth 20000 in
theorem dnX0_firstTaken_s8 {X : o_Cx} (hX : o_ok X) {d : Nat} {a0 : Nat} {x1 : Int32} {x2 : Int32} {τ8 : Int32} {μ0 : o_Mem} {K : (Nat × (Int32)) → o_Mem → Prop} {Q : Option Value → o_Mem → Prop} (h0 : o_is X a0 (.inl 0)) (h : o_Post (fX0_firstTaken_s8 (o_rf X) a0 x1 x2 τ8 μ0) K) (kh : ∀ (τ8 : Int32) (μ : o_Mem), K (8, τ8) μ → o_Ev X (d + 12) mX0_firstTaken 8 [some (.ref (o_ad X a0)), some (.int x1), some (.int x2), some (.int τ8)] [] μ Q) (k28 : ∀ (τ8 : Int32) (μ : o_Mem), K (28, τ8) μ → o_Ev X (d + 12) mX0_firstTaken 28 [none, none, none, some (.int τ8)] [] μ Q) (k36 : ∀ (τ8 : Int32) (μ : o_Mem), K (36, τ8) μ → o_Ev X (d + 12) mX0_firstTaken 36 [none, none, none, none] [] μ Q) : o_Ev X (d + 12) mX0_firstTaken 8 [some (.ref (o_ad X a0)), some (.int x1), some (.int x2), some (.int τ8)] [] μ0 Q := by
  unfold fX0_firstTaken_s8 at h
  refine s_iload_n (i := 3) dX0_firstTaken_8 rfl rfl ?_
  refine s_aload_n (i := 0) dX0_firstTaken_9 rfl rfl ?_
  refine s_getI h0 flX0_30 rfl dX0_firstTaken_10 ?_
  refine s_icmp_ge (tgt := 36) dX0_firstTaken_13 rfl (fun c1 => ?_) (fun c1 => ?_)
  · have h := o_if_t c1 h
    refine s_mask [false, false, false, false] (L' := [none, none, none, none]) rfl ?_
    exact k36 0 _ (o_ret h)
  · have h := o_if_f c1 h
    refine s_aload_n (i := 0) dX0_firstTaken_16 rfl rfl ?_
    refine s_iconst dX0_firstTaken_17 kI_0 ?_
    refine s_iload_n (i := 1) dX0_firstTaken_18 rfl rfl ?_
    refine s_iconst dX0_firstTaken_19 kI_0 ?_
    refine s_iload_n (i := 3) dX0_firstTaken_20 rfl rfl ?_
    refine s_callVi (C := mX0_takenThen) (As := [.int 0, .int x1, .int 0, .int τ8]) (rest := []) (L0 := [some (.ref (o_ad X a0)), some (.int 0), some (.int x1), some (.int 0), some (.int τ8), none]) hX h0 clX0_61 dX0_firstTaken_21 rfl rfl (Nat.le_of_ble_eq_true rfl) (Nat.le_of_ble_eq_true rfl) (dnX0_takenThen hX h0 (o_bdp h)) (fun r1 μ1 h => ?_)
    refine s_iload_n (i := 2) dX0_firstTaken_24 rfl rfl ?_
    refine s_icmp_ne (tgt := 30) dX0_firstTaken_25 rfl (fun c1 => ?_) (fun c1 => ?_)
    · have h := o_if_f c1 h
      refine s_iinc (v := (τ8 + 1)) dX0_firstTaken_30 rfl rfl (Nat.le_of_ble_eq_true rfl) rfl ?_
      refine s_goto (tgt := 8) dX0_firstTaken_33 rfl ?_
      refine s_mask [true, true, true, true] (L' := [some (.ref (o_ad X a0)), some (.int x1), some (.int x2), some (.int (τ8 + 1))]) rfl ?_
      exact kh (τ8 + 1) _ (o_ret h)
    · have h := o_if_t c1 h
      refine s_mask [false, false, false, true] (L' := [none, none, none, some (.int τ8)]) rfl ?_
      exact k28 τ8 _ (o_ret h)
set_option maxRecDepth 20000 in
theorem dnX0_firstTaken {X : o_Cx} (hX : o_ok X) {d : Nat} {a0 : Nat} {x1 : Int32} {μ0 : o_Mem} {q : Int32 → o_Mem → Prop} (h0 : o_is X a0 (.inl 0)) (h : o_Post (fX0_firstTaken (o_rf X) a0 x1 μ0) q) : o_Ev X (d + 12) mX0_firstTaken 0 [some (.ref (o_ad X a0)), some (.int x1), none, none] [] μ0 (o_QI q) := by
  unfold fX0_firstTaken at h
  refine s_aload_n (i := 0) dX0_firstTaken_0 rfl rfl ?_
  refine s_iload_n (i := 1) dX0_firstTaken_1 rfl rfl ?_
  refine s_callVi (C := mX0_outcome) (As := [.int x1]) (rest := []) (L0 := [some (.ref (o_ad X a0)), some (.int x1)]) hX h0 clX0_58 dX0_firstTaken_2 rfl rfl (Nat.le_of_ble_eq_true rfl) (Nat.le_of_ble_eq_true rfl) (dnX0_outcome hX h0 (o_bdp h)) (fun r1 μ1 h => ?_)
  refine s_istore_n (i := 2) dX0_firstTaken_5 rfl (Nat.le_of_ble_eq_true rfl) rfl ?_
  refine s_iconst dX0_firstTaken_6 kI_0 ?_
  refine s_istore_n (i := 3) dX0_firstTaken_7 rfl (Nat.le_of_ble_eq_true rfl) rfl ?_
  refine s_mask [true, true, true, true] (L' := [some (.ref (o_ad X a0)), some (.int x1), some (.int r1), some (.int 0)]) rfl ?_
  refine o_lp_ev (fun τ8 => [some (.ref (o_ad X a0)), some (.int x1), some (.int r1), some (.int τ8)]) (fun τ8 μ _K h kv ke8 => dnX0_firstTaken_s8 hX h0 h kv (fun τ8 μ2 h => ?_) (fun τ8 μ2 h => ?_)) o_fuel 0 μ1 (o_bdp h)
  · have h := o_if_t rfl (ke8 (28, τ8) μ2 (o_ne rfl) h)
    refine s_iload_n (i := 3) dX0_firstTaken_28 rfl rfl ?_
    exact s_ireturn rfl dX0_firstTaken_29 ⟨_, rfl, o_ret h⟩
  · have h := o_if_t rfl (o_if_f (o_ne rfl) (ke8 (36, τ8) μ2 (o_ne rfl) h))
    refine s_iconst dX0_firstTaken_36 kI_m1 ?_
    exact s_ireturn rfl dX0_firstTaken_37 ⟨_, rfl, o_ret h⟩
