theorem dX5_splits_0 : decode cX5_splits 0 = .ok (.iconst 0, 1) := by decide +kernel
theorem dX5_splits_1 : decode cX5_splits 1 = .ok (.aload_n 0, 1) := by decide +kernel
theorem dX5_splits_2 : decode cX5_splits 2 = .ok (.getfield 64, 3) := by decide +kernel
theorem dX5_splits_5 : decode cX5_splits 5 = .ok (.aload_n 0, 1) := by decide +kernel
theorem dX5_splits_6 : decode cX5_splits 6 = .ok (.getfield 61, 3) := by decide +kernel
theorem dX5_splits_9 : decode cX5_splits 9 = .ok (.isub, 1) := by decide +kernel
theorem dX5_splits_10 : decode cX5_splits 10 = .ok (.iconst 1, 1) := by decide +kernel
theorem dX5_splits_11 : decode cX5_splits 11 = .ok (.iadd, 1) := by decide +kernel
theorem dX5_splits_12 : decode cX5_splits 12 = .ok (.invokestatic 67, 3) := by decide +kernel
theorem dX5_splits_15 : decode cX5_splits 15 = .ok (.ireturn, 1) := by decide +kernel
noncomputable def fX5_splits (rf : Nat → Nat → Nat) (a0 : Nat) (μ0 : o_Mem) : Option (Int32 × o_Mem) :=
  some ((if 0 < (((μ0.1 a0 3) - (μ0.1 a0 2)) + 1) then (((μ0.1 a0 3) - (μ0.1 a0 2)) + 1) else 0), μ0)
set_option maxRecDepth 20000 in
theorem dnX5_splits {X : o_Cx} (hX : o_ok X) {d : Nat} {a0 : Nat} {μ0 : o_Mem} {q : Int32 → o_Mem → Prop} (h0 : o_is X a0 (.inl 5)) (h : o_Post (fX5_splits (o_rf X) a0 μ0) q) : o_Ev X (d + 1) mX5_splits 0 [some (.ref (o_ad X a0))] [] μ0 (o_QI q) := by
  unfold fX5_splits at h
  refine s_iconst dX5_splits_0 kI_0 ?_
  refine s_aload_n (i := 0) dX5_splits_1 rfl rfl ?_
  refine s_getI h0 flX5_64 rfl dX5_splits_2 ?_
  refine s_aload_n (i := 0) dX5_splits_5 rfl rfl ?_
  refine s_getI h0 flX5_61 rfl dX5_splits_6 ?_
  refine s_isub dX5_splits_9 ?_
  refine s_iconst dX5_splits_10 kI_1 ?_
  refine s_iadd dX5_splits_11 ?_
  refine s_max mlX5_67 mst_max mini mco_max (Nat.le_of_ble_eq_true rfl) dX5_splits_12 ?_
  exact s_ireturn rfl dX5_splits_15 ⟨_, rfl, o_ret h⟩
theorem dX5_bestSplit_0 : decode cX5_bestSplit 0 = .ok (.iconst (-1), 1) := by decide +kernel
theorem dX5_bestSplit_1 : decode cX5_bestSplit 1 = .ok (.istore_n 1, 1) := by decide +kernel
theorem dX5_bestSplit_2 : decode cX5_bestSplit 2 = .ok (.bipush 101, 2) := by decide +kernel
theorem dX5_bestSplit_4 : decode cX5_bestSplit 4 = .ok (.istore_n 2, 1) := by decide +kernel
theorem dX5_bestSplit_5 : decode cX5_bestSplit 5 = .ok (.iconst 1, 1) := by decide +kernel
theorem dX5_bestSplit_6 : decode cX5_bestSplit 6 = .ok (.istore_n 3, 1) := by decide +kernel
theorem dX5_bestSplit_7 : decode cX5_bestSplit 7 = .ok (.iload_n 3, 1) := by decide +kernel
theorem dX5_bestSplit_8 : decode cX5_bestSplit 8 = .ok (.bipush 99, 2) := by decide +kernel
theorem dX5_bestSplit_10 : decode cX5_bestSplit 10 = .ok (.if_icmp .gt 55, 3) := by decide +kernel
theorem dX5_bestSplit_13 : decode cX5_bestSplit 13 = .ok (.iconst 0, 1) := by decide +kernel
theorem dX5_bestSplit_14 : decode cX5_bestSplit 14 = .ok (.iload_n 3, 1) := by decide +kernel
theorem dX5_bestSplit_15 : decode cX5_bestSplit 15 = .ok (.aload_n 0, 1) := by decide +kernel
theorem dX5_bestSplit_16 : decode cX5_bestSplit 16 = .ok (.getfield 64, 3) := by decide +kernel
theorem dX5_bestSplit_19 : decode cX5_bestSplit 19 = .ok (.invokestatic 73, 3) := by decide +kernel
theorem dX5_bestSplit_22 : decode cX5_bestSplit 22 = .ok (.aload_n 0, 1) := by decide +kernel
theorem dX5_bestSplit_23 : decode cX5_bestSplit 23 = .ok (.getfield 61, 3) := by decide +kernel
theorem dX5_bestSplit_26 : decode cX5_bestSplit 26 = .ok (.isub, 1) := by decide +kernel
theorem dX5_bestSplit_27 : decode cX5_bestSplit 27 = .ok (.iconst 1, 1) := by decide +kernel
theorem dX5_bestSplit_28 : decode cX5_bestSplit 28 = .ok (.iadd, 1) := by decide +kernel
theorem dX5_bestSplit_29 : decode cX5_bestSplit 29 = .ok (.invokestatic 67, 3) := by decide +kernel
theorem dX5_bestSplit_32 : decode cX5_bestSplit 32 = .ok (.istore 4, 2) := by decide +kernel
theorem dX5_bestSplit_34 : decode cX5_bestSplit 34 = .ok (.iload 4, 2) := by decide +kernel
theorem dX5_bestSplit_36 : decode cX5_bestSplit 36 = .ok (.aload_n 0, 1) := by decide +kernel
theorem dX5_bestSplit_37 : decode cX5_bestSplit 37 = .ok (.invokevirtual 76, 3) := by decide +kernel
theorem dX5_bestSplit_40 : decode cX5_bestSplit 40 = .ok (.iload 4, 2) := by decide +kernel
theorem dX5_bestSplit_42 : decode cX5_bestSplit 42 = .ok (.isub, 1) := by decide +kernel
theorem dX5_bestSplit_43 : decode cX5_bestSplit 43 = .ok (.invokestatic 67, 3) := by decide +kernel
theorem dX5_bestSplit_46 : decode cX5_bestSplit 46 = .ok (.istore 5, 2) := by decide +kernel
theorem dX5_bestSplit_48 : decode cX5_bestSplit 48 = .ok (.iload 5, 2) := by decide +kernel
theorem dX5_bestSplit_50 : decode cX5_bestSplit 50 = .ok (.iload_n 2, 1) := by decide +kernel
theorem dX5_bestSplit_51 : decode cX5_bestSplit 51 = .ok (.if_icmp .ge 8, 3) := by decide +kernel
theorem dX5_bestSplit_54 : decode cX5_bestSplit 54 = .ok (.iload 5, 2) := by decide +kernel
theorem dX5_bestSplit_56 : decode cX5_bestSplit 56 = .ok (.istore_n 2, 1) := by decide +kernel
theorem dX5_bestSplit_57 : decode cX5_bestSplit 57 = .ok (.iload_n 3, 1) := by decide +kernel
theorem dX5_bestSplit_58 : decode cX5_bestSplit 58 = .ok (.istore_n 1, 1) := by decide +kernel
theorem dX5_bestSplit_59 : decode cX5_bestSplit 59 = .ok (.iinc 3 1, 3) := by decide +kernel
theorem dX5_bestSplit_62 : decode cX5_bestSplit 62 = .ok (.goto (-55), 3) := by decide +kernel
theorem dX5_bestSplit_65 : decode cX5_bestSplit 65 = .ok (.iload_n 1, 1) := by decide +kernel
theorem dX5_bestSplit_66 : decode cX5_bestSplit 66 = .ok (.ireturn, 1) := by decide +kernel
noncomputable def fX5_bestSplit_s7 (rf : Nat → Nat → Nat) (a0 : Nat) (τ7 : Int32 × Int32 × Int32) (μ0 : o_Mem) : Option ((Nat × (Int32 × Int32 × Int32)) × o_Mem) :=
  if 99 < τ7.2.2 then (
    some ((65, (τ7.1, 0, 0)), μ0))
  else (
    o_bd (fX5_splits rf a0 μ0) fun r1 μ1 =>
    if τ7.2.1 ≤ (if (if 0 < (((if τ7.2.2 > (μ0.1 a0 3) then (μ0.1 a0 3) else τ7.2.2) - (μ0.1 a0 2)) + 1) then (((if τ7.2.2 > (μ0.1 a0 3) then (μ0.1 a0 3) else τ7.2.2) - (μ0.1 a0 2)) + 1) else 0) < (r1 - (if 0 < (((if τ7.2.2 > (μ0.1 a0 3) then (μ0.1 a0 3) else τ7.2.2) - (μ0.1 a0 2)) + 1) then (((if τ7.2.2 > (μ0.1 a0 3) then (μ0.1 a0 3) else τ7.2.2) - (μ0.1 a0 2)) + 1) else 0)) then (r1 - (if 0 < (((if τ7.2.2 > (μ0.1 a0 3) then (μ0.1 a0 3) else τ7.2.2) - (μ0.1 a0 2)) + 1) then (((if τ7.2.2 > (μ0.1 a0 3) then (μ0.1 a0 3) else τ7.2.2) - (μ0.1 a0 2)) + 1) else 0)) else (if 0 < (((if τ7.2.2 > (μ0.1 a0 3) then (μ0.1 a0 3) else τ7.2.2) - (μ0.1 a0 2)) + 1) then (((if τ7.2.2 > (μ0.1 a0 3) then (μ0.1 a0 3) else τ7.2.2) - (μ0.1 a0 2)) + 1) else 0)) then (
      some ((7, (τ7.1, τ7.2.1, (τ7.2.2 + 1))), μ1))
    else (
      some ((7, (τ7.2.2, (if (if 0 < (((if τ7.2.2 > (μ0.1 a0 3) then (μ0.1 a0 3) else τ7.2.2) - (μ0.1 a0 2)) + 1) then (((if τ7.2.2 > (μ0.1 a0 3) then (μ0.1 a0 3) else τ7.2.2) - (μ0.1 a0 2)) + 1) else 0) < (r1 - (if 0 < (((if τ7.2.2 > (μ0.1 a0 3) then (μ0.1 a0 3) else τ7.2.2) - (μ0.1 a0 2)) + 1) then (((if τ7.2.2 > (μ0.1 a0 3) then (μ0.1 a0 3) else τ7.2.2) - (μ0.1 a0 2)) + 1) else 0)) then (r1 - (if 0 < (((if τ7.2.2 > (μ0.1 a0 3) then (μ0.1 a0 3) else τ7.2.2) - (μ0.1 a0 2)) + 1) then (((if τ7.2.2 > (μ0.1 a0 3) then (μ0.1 a0 3) else τ7.2.2) - (μ0.1 a0 2)) + 1) else 0)) else (if 0 < (((if τ7.2.2 > (μ0.1 a0 3) then (μ0.1 a0 3) else τ7.2.2) - (μ0.1 a0 2)) + 1) then (((if τ7.2.2 > (μ0.1 a0 3) then (μ0.1 a0 3) else τ7.2.2) - (μ0.1 a0 2)) + 1) else 0)), (τ7.2.2 + 1))), μ1)))
noncomputable def fX5_bestSplit (rf : Nat → Nat → Nat) (a0 : Nat) (μ0 : o_Mem) : Option (Int32 × o_Mem) :=
  o_bd (o_lp 7 (fX5_bestSplit_s7 rf a0) o_fuel ((-1), 101, 1) μ0) fun ex1 μ1 =>
  if ex1.1 = 65 then (
    some (ex1.2.1, μ1))
  else
    none
set_option maxRecDepth 20000 in
theorem dnX5_bestSplit_s7 {X : o_Cx} (hX : o_ok X) {d : Nat} {a0 : Nat} {τ7 : Int32 × Int32 × Int32} {μ0 : o_Mem} {K : (Nat × (Int32 × Int32 × Int32)) → o_Mem → Prop} {Q : Option Value → o_Mem → Prop} (h0 : o_is X a0 (.inl 5)) (h : o_Post (fX5_bestSplit_s7 (o_rf X) a0 τ7 μ0) K) (kh : ∀ (τ7 : Int32 × Int32 × Int32) (μ : o_Mem), K (7, τ7) μ → o_Ev X (d + 2) mX5_bestSplit 7 [some (.ref (o_ad X a0)), some (.int τ7.1), some (.int τ7.2.1), some (.int τ7.2.2), none, none] [] μ Q) (k65 : ∀ (τ7 : Int32 × Int32 × Int32) (μ : o_Mem), K (65, τ7) μ → o_Ev X (d + 2) mX5_bestSplit 65 [none, some (.int τ7.1), none, none, none, none] [] μ Q) : o_Ev X (d + 2) mX5_bestSplit 7 [some (.ref (o_ad X a0)), some (.int τ7.1), some (.int τ7.2.1), some (.int τ7.2.2), none, none] [] μ0 Q := by
  unfold fX5_bestSplit_s7 at h
  refine s_iload_n (i := 3) dX5_bestSplit_7 rfl rfl ?_
  refine s_bipush dX5_bestSplit_8 kB_99 ?_
  refine s_icmp_gt (tgt := 65) dX5_bestSplit_10 rfl (fun c1 => ?_) (fun c1 => ?_)
  · have h := o_if_t c1 h
    refine s_mask [false, true, false, false, false, false] (L' := [none, some (.int τ7.1), none, none, none, none]) rfl ?_
    exact k65 (τ7.1, 0, 0) _ (o_ret h)
  · have h := o_if_f c1 h
    refine s_iconst dX5_bestSplit_13 kI_0 ?_
    refine s_iload_n (i := 3) dX5_bestSplit_14 rfl rfl ?_
    refine s_aload_n (i := 0) dX5_bestSplit_15 rfl rfl ?_
    refine s_getI h0 flX5_64 rfl dX5_bestSplit_16 ?_
    refine s_min mlX5_73 mst_min mini mco_min (Nat.le_of_ble_eq_true rfl) dX5_bestSplit_19 ?_
    refine s_aload_n (i := 0) dX5_bestSplit_22 rfl rfl ?_
    refine s_getI h0 flX5_61 rfl dX5_bestSplit_23 ?_
    refine s_isub dX5_bestSplit_26 ?_
    refine s_iconst dX5_bestSplit_27 kI_1 ?_
    refine s_iadd dX5_bestSplit_28 ?_
    refine s_max mlX5_67 mst_max mini mco_max (Nat.le_of_ble_eq_true rfl) dX5_bestSplit_29 ?_
    refine s_istore dX5_bestSplit_32 (Nat.le_of_ble_eq_true rfl) rfl ?_
    refine s_iload dX5_bestSplit_34 rfl ?_
    refine s_aload_n (i := 0) dX5_bestSplit_36 rfl rfl ?_
    refine s_callVi (C := mX5_splits) (As := []) (rest := [.int (if 0 < (((if τ7.2.2 > (μ0.1 a0 3) then (μ0.1 a0 3) else τ7.2.2) - (μ0.1 a0 2)) + 1) then (((if τ7.2.2 > (μ0.1 a0 3) then (μ0.1 a0 3) else τ7.2.2) - (μ0.1 a0 2)) + 1) else 0)]) (L0 := [some (.ref (o_ad X a0))]) hX h0 clX5_76 dX5_bestSplit_37 rfl rfl (Nat.le_of_ble_eq_true rfl) (Nat.le_of_ble_eq_true rfl) (dnX5_splits hX h0 (o_bdp h)) (fun r1 μ1 h => ?_)
    refine s_iload dX5_bestSplit_40 rfl ?_
    refine s_isub dX5_bestSplit_42 ?_
    refine s_max mlX5_67 mst_max mini mco_max (Nat.le_of_ble_eq_true rfl) dX5_bestSplit_43 ?_
    refine s_istore dX5_bestSplit_46 (Nat.le_of_ble_eq_true rfl) rfl ?_
    refine s_iload dX5_bestSplit_48 rfl ?_
    refine s_iload_n (i := 2) dX5_bestSplit_50 rfl rfl ?_
    refine s_icmp_ge (tgt := 59) dX5_bestSplit_51 rfl (fun c1 => ?_) (fun c1 => ?_)
    · have h := o_if_t c1 h
      refine s_iinc (v := (τ7.2.2 + 1)) dX5_bestSplit_59 rfl rfl (Nat.le_of_ble_eq_true rfl) rfl ?_
      refine s_goto (tgt := 7) dX5_bestSplit_62 rfl ?_
      refine s_mask [true, true, true, true, false, false] (L' := [some (.ref (o_ad X a0)), some (.int τ7.1), some (.int τ7.2.1), some (.int (τ7.2.2 + 1)), none, none]) rfl ?_
      exact kh (τ7.1, τ7.2.1, (τ7.2.2 + 1)) _ (o_ret h)
    · have h := o_if_f c1 h
      refine s_iload dX5_bestSplit_54 rfl ?_
      refine s_istore_n (i := 2) dX5_bestSplit_56 rfl (Nat.le_of_ble_eq_true rfl) rfl ?_
      refine s_iload_n (i := 3) dX5_bestSplit_57 rfl rfl ?_
      refine s_istore_n (i := 1) dX5_bestSplit_58 rfl (Nat.le_of_ble_eq_true rfl) rfl ?_
      refine s_iinc (v := (τ7.2.2 + 1)) dX5_bestSplit_59 rfl rfl (Nat.le_of_ble_eq_true rfl) rfl ?_
      refine s_goto (tgt := 7) dX5_bestSplit_62 rfl ?_
      refine s_mask [true, true, true, true, false, false] (L' := [some (.ref (o_ad X a0)), some (.int τ7.2.2), some (.int (if (if 0 < (((if τ7.2.2 > (μ0.1 a0 3) then (μ0.1 a0 3) else τ7.2.2) - (μ0.1 a0 2)) + 1) then (((if τ7.2.2 > (μ0.1 a0 3) then (μ0.1 a0 3) else τ7.2.2) - (μ0.1 a0 2)) + 1) else 0) < (r1 - (if 0 < (((if τ7.2.2 > (μ0.1 a0 3) then (μ0.1 a0 3) else τ7.2.2) - (μ0.1 a0 2)) + 1) then (((if τ7.2.2 > (μ0.1 a0 3) then (μ0.1 a0 3) else τ7.2.2) - (μ0.1 a0 2)) + 1) else 0)) then (r1 - (if 0 < (((if τ7.2.2 > (μ0.1 a0 3) then (μ0.1 a0 3) else τ7.2.2) - (μ0.1 a0 2)) + 1) then (((if τ7.2.2 > (μ0.1 a0 3) then (μ0.1 a0 3) else τ7.2.2) - (μ0.1 a0 2)) + 1) else 0)) else (if 0 < (((if τ7.2.2 > (μ0.1 a0 3) then (μ0.1 a0 3) else τ7.2.2) - (μ0.1 a0 2)) + 1) then (((if τ7.2.2 > (μ0.1 a0 3) then (μ0.1 a0 3) else τ7.2.2) - (μ0.1 a0 2)) + 1) else 0))), some (.int (τ7.2.2 + 1)), none, none]) rfl ?_
      exact kh (τ7.2.2, (if (if 0 < (((if τ7.2.2 > (μ0.1 a0 3) then (μ0.1 a0 3) else τ7.2.2) - (μ0.1 a0 2)) + 1) then (((if τ7.2.2 > (μ0.1 a0 3) then (μ0.1 a0 3) else τ7.2.2) - (μ0.1 a0 2)) + 1) else 0) < (r1 - (if 0 < (((if τ7.2.2 > (μ0.1 a0 3) then (μ0.1 a0 3) else τ7.2.2) - (μ0.1 a0 2)) + 1) then (((if τ7.2.2 > (μ0.1 a0 3) then (μ0.1 a0 3) else τ7.2.2) - (μ0.1 a0 2)) + 1) else 0)) then (r1 - (if 0 < (((if τ7.2.2 > (μ0.1 a0 3) then (μ0.1 a0 3) else τ7.2.2) - (μ0.1 a0 2)) + 1) then (((if τ7.2.2 > (μ0.1 a0 3) then (μ0.1 a0 3) else τ7.2.2) - (μ0.1 a0 2)) + 1) else 0)) else (if 0 < (((if τ7.2.2 > (μ0.1 a0 3) then (μ0.1 a0 3) else τ7.2.2) - (μ0.1 a0 2)) + 1) then (((if τ7.2.2 > (μ0.1 a0 3) then (μ0.1 a0 3) else τ7.2.2) - (μ0.1 a0 2)) + 1) else 0)), (τ7.2.2 + 1)) _ (o_ret h)
set_option maxRecDepth 20000 in
theorem dnX5_bestSplit {X : o_Cx} (hX : o_ok X) {d : Nat} {a0 : Nat} {μ0 : o_Mem} {q : Int32 → o_Mem → Prop} (h0 : o_is X a0 (.inl 5)) (h : o_Post (fX5_bestSplit (o_rf X) a0 μ0) q) : o_Ev X (d + 2) mX5_bestSplit 0 [some (.ref (o_ad X a0)), none, none, none, none, none] [] μ0 (o_QI q) := by
  unfold fX5_bestSplit at h
  refine s_iconst dX5_bestSplit_0 kI_m1 ?_
  refine s_istore_n (i := 1) dX5_bestSplit_1 rfl (Nat.le_of_ble_eq_true rfl) rfl ?_
  refine s_bipush dX5_bestSplit_2 kB_101 ?_
  refine s_istore_n (i := 2) dX5_bestSplit_4 rfl (Nat.le_of_ble_eq_true rfl) rfl ?_
  refine s_iconst dX5_bestSplit_5 kI_1 ?_
  refine s_istore_n (i := 3) dX5_bestSplit_6 rfl (Nat.le_of_ble_eq_true rfl) rfl ?_
  refine s_mask [true, true, true, true, false, false] (L' := [some (.ref (o_ad X a0)), some (.int (-1)), some (.int 101), some (.int 1), none, none]) rfl ?_
  refine o_lp_ev (fun τ7 => [some (.ref (o_ad X a0)), some (.int τ7.1), some (.int τ7.2.1), some (.int τ7.2.2), none, none]) (fun τ7 μ _K h kv ke7 => dnX5_bestSplit_s7 hX h0 h kv (fun τ7 μ1 h => ?_)) o_fuel ((-1), 101, 1) μ0 (o_bdp h)
  · have h := o_if_t rfl (ke7 (65, τ7) μ1 (o_ne rfl) h)
    refine s_iload_n (i := 1) dX5_bestSplit_65 rfl rfl ?_
    exact s_ireturn rfl dX5_bestSplit_66 ⟨_, rfl, o_ret h⟩
theorem dX6_struckBetween_0 : decode cX6_struckBetween 0 = .ok (.aload_n 0, 1) := by decide +kernel
theorem dX6_struckBetween_1 : decode cX6_struckBetween 1 = .ok (.iload_n 1, 1) := by decide +kernel
theorem dX6_struckBetween_2 : decode cX6_struckBetween 2 = .ok (.iload_n 2, 1) := by decide +kernel
theorem dX6_struckBetween_3 : decode cX6_struckBetween 3 = .ok (.iload_n 3, 1) := by decide +kernel
theorem dX6_struckBetween_4 : decode cX6_struckBetween 4 = .ok (.aload_n 0, 1) := by decide +kernel
theorem dX6_struckBetween_5 : decode cX6_struckBetween 5 = .ok (.getfield 37, 3) := by decide +kernel
theorem dX6_struckBetween_8 : decode cX6_struckBetween 8 = .ok (.iload_n 1, 1) := by decide +kernel
theorem dX6_struckBetween_9 : decode cX6_struckBetween 9 = .ok (.iaload, 1) := by decide +kernel
theorem dX6_struckBetween_10 : decode cX6_struckBetween 10 = .ok (.invokevirtual 40, 3) := by decide +kernel
theorem dX6_struckBetween_13 : decode cX6_struckBetween 13 = .ok (.ireturn, 1) := by decide +kernel
noncomputable def fX6_struckBetween (rf : Nat → Nat → Nat) (a0 : Nat) (x1 : Int32) (x2 : Int32) (x3 : Int32) (μ0 : o_Mem) : Option (Int32 × o_Mem) :=
  o_ck (0 ≤ (x1).toInt ∧ (x1).toInt < 6) <|
  o_bd (fX8_soberStrike rf a0 x1 x2 x3 (μ0.1 (rf a0 11) x1.toNatClampNeg) μ0) fun r1 μ1 =>
  some (r1, μ1)
set_option maxRecDepth 20000 in
theorem dnX6_struckBetween {X : o_Cx} (hX : o_ok X) {d : Nat} {a0 : Nat} {x1 : Int32} {x2 : Int32} {x3 : Int32} {μ0 : o_Mem} {q : Int32 → o_Mem → Prop} (h0 : o_is X a0 (.inl 8)) (h : o_Post (fX6_struckBetween (o_rf X) a0 x1 x2 x3 μ0) q) : o_Ev X (d + 3) mX6_struckBetween 0 [some (.ref (o_ad X a0)), some (.int x1), some (.int x2), some (.int x3)] [] μ0 (o_QI q) := by
  unfold fX6_struckBetween at h
  refine s_aload_n (i := 0) dX6_struckBetween_0 rfl rfl ?_
  refine s_iload_n (i := 1) dX6_struckBetween_1 rfl rfl ?_
  refine s_iload_n (i := 2) dX6_struckBetween_2 rfl rfl ?_
  refine s_iload_n (i := 3) dX6_struckBetween_3 rfl rfl ?_
  refine s_aload_n (i := 0) dX6_struckBetween_4 rfl rfl ?_
  refine s_getR hX h0 flX6_37 rfl dX6_struckBetween_5 (fun (g1 : o_is X (o_rf X a0 11) (.inr (0, 6))) => ?_)
  refine s_iload_n (i := 1) dX6_struckBetween_8 rfl rfl ?_
  have hc := o_ck_c h
  have h := o_ck_k h
  refine s_ialdK g1 hc rfl dX6_struckBetween_9 ?_
  refine s_callVi (C := mX8_soberStrike) (As := [.int x1, .int x2, .int x3, .int (μ0.1 (o_rf X a0 11) x1.toNatClampNeg)]) (rest := []) (L0 := [some (.ref (o_ad X a0)), some (.int x1), some (.int x2), some (.int x3), some (.int (μ0.1 (o_rf X a0 11) x1.toNatClampNeg))]) hX h0 clX6_40 dX6_struckBetween_10 rfl rfl (Nat.le_of_ble_eq_true rfl) (Nat.le_of_ble_eq_true rfl) (dnX8_soberStrike hX h0 (o_bdp h)) (fun r1 μ1 h => ?_)
  exact s_ireturn rfl dX6_struckBetween_13 ⟨_, rfl, o_ret h⟩
theorem dX6_nextOnWay_0 : decode cX6_nextOnWay 0 = .ok (.iconst 0, 1) := by decide +kernel
theorem dX6_nextOnWay_1 : decode cX6_nextOnWay 1 = .ok (.istore 5, 2) := by decide +kernel
theorem dX6_nextOnWay_3 : decode cX6_nextOnWay 3 = .ok (.iload 5, 2) := by decide +kernel
theorem dX6_nextOnWay_5 : decode cX6_nextOnWay 5 = .ok (.aload_n 1, 1) := by decide +kernel
theorem dX6_nextOnWay_6 : decode cX6_nextOnWay 6 = .ok (.getfield 24, 3) := by decide +kernel
theorem dX6_nextOnWay_9 : decode cX6_nextOnWay 9 = .ok (.if_icmp .ge 44, 3) := by decide +kernel
theorem dX6_nextOnWay_12 : decode cX6_nextOnWay 12 = .ok (.iload 5, 2) := by decide +kernel
theorem dX6_nextOnWay_14 : decode cX6_nextOnWay 14 = .ok (.iload_n 2, 1) := by decide +kernel
theorem dX6_nextOnWay_15 : decode cX6_nextOnWay 15 = .ok (.if_icmp .eq 32, 3) := by decide +kernel
theorem dX6_nextOnWay_18 : decode cX6_nextOnWay 18 = .ok (.aload_n 0, 1) := by decide +kernel
theorem dX6_nextOnWay_19 : decode cX6_nextOnWay 19 = .ok (.getfield 9, 3) := by decide +kernel
theorem dX6_nextOnWay_22 : decode cX6_nextOnWay 22 = .ok (.iload 5, 2) := by decide +kernel
theorem dX6_nextOnWay_24 : decode cX6_nextOnWay 24 = .ok (.iaload, 1) := by decide +kernel
theorem dX6_nextOnWay_25 : decode cX6_nextOnWay 25 = .ok (.iload 4, 2) := by decide +kernel
theorem dX6_nextOnWay_27 : decode cX6_nextOnWay 27 = .ok (.iconst 1, 1) := by decide +kernel
theorem dX6_nextOnWay_28 : decode cX6_nextOnWay 28 = .ok (.isub, 1) := by decide +kernel
theorem dX6_nextOnWay_29 : decode cX6_nextOnWay 29 = .ok (.if_icmp .ne 18, 3) := by decide +kernel
theorem dX6_nextOnWay_32 : decode cX6_nextOnWay 32 = .ok (.aload_n 1, 1) := by decide +kernel
theorem dX6_nextOnWay_33 : decode cX6_nextOnWay 33 = .ok (.iload_n 2, 1) := by decide +kernel
theorem dX6_nextOnWay_34 : decode cX6_nextOnWay 34 = .ok (.iload 5, 2) := by decide +kernel
theorem dX6_nextOnWay_36 : decode cX6_nextOnWay 36 = .ok (.iload_n 3, 1) := by decide +kernel
theorem dX6_nextOnWay_37 : decode cX6_nextOnWay 37 = .ok (.invokestatic 30, 3) := by decide +kernel
theorem dX6_nextOnWay_40 : decode cX6_nextOnWay 40 = .ok (.iconst (-1), 1) := by decide +kernel
theorem dX6_nextOnWay_41 : decode cX6_nextOnWay 41 = .ok (.if_icmp .eq 6, 3) := by decide +kernel
theorem dX6_nextOnWay_44 : decode cX6_nextOnWay 44 = .ok (.iload 5, 2) := by decide +kernel
theorem dX6_nextOnWay_46 : decode cX6_nextOnWay 46 = .ok (.ireturn, 1) := by decide +kernel
theorem dX6_nextOnWay_47 : decode cX6_nextOnWay 47 = .ok (.iinc 5 1, 3) := by decide +kernel
theorem dX6_nextOnWay_50 : decode cX6_nextOnWay 50 = .ok (.goto (-47), 3) := by decide +kernel
theorem dX6_nextOnWay_53 : decode cX6_nextOnWay 53 = .ok (.iconst (-1), 1) := by decide +kernel
theorem dX6_nextOnWay_54 : decode cX6_nextOnWay 54 = .ok (.ireturn, 1) := by decide +kernel
noncomputable def fX6_nextOnWay_s3 (rf : Nat → Nat → Nat) (a0 : Nat) (a1 : Nat) (x2 : Int32) (x3 : Int32) (x4 : Int32) (τ3 : Int32) (μ0 : o_Mem) : Option ((Nat × (Int32)) × o_Mem) :=
  if (μ0.1 a1 2) ≤ τ3 then (
    some ((53, 0), μ0))
  else (
    if τ3 = x2 then (
      some ((3, (τ3 + 1)), μ0))
    else (
      o_ck (0 ≤ (τ3).toInt ∧ (τ3).toInt < 6) <|
      if (μ0.1 (rf a0 0) τ3.toNatClampNeg) = (x4 - 1) then (
        o_bd (fX6_struckBetween rf a1 x2 τ3 x3 μ0) fun r1 μ1 =>
        if r1 = (-1) then (
          some ((3, (τ3 + 1)), μ1))
        else (
          some ((44, τ3), μ1)))
      else (
        some ((3, (τ3 + 1)), μ0))))
noncomputable def fX6_nextOnWay (rf : Nat → Nat → Nat) (a0 : Nat) (a1 : Nat) (x2 : Int32) (x3 : Int32) (x4 : Int32) (μ0 : o_Mem) : Option (Int32 × o_Mem) :=
  o_bd (o_lp 3 (fX6_nextOnWay_s3 rf a0 a1 x2 x3 x4) o_fuel (0 : Int32) μ0) fun ex1 μ1 =>
  if ex1.1 = 44 then (
    some (ex1.2, μ1))
  else
  if ex1.1 = 53 then (
    some ((-1), μ1))
  else
    none
set_option maxRecDepth 20000 in
theorem dnX6_nextOnWay_s3 {X : o_Cx} (hX : o_ok X) {d : Nat} {a0 : Nat} {a1 : Nat} {x2 : Int32} {x3 : Int32} {x4 : Int32} {τ3 : Int32} {μ0 : o_Mem} {K : (Nat × (Int32)) → o_Mem → Prop} {Q : Option Value → o_Mem → Prop} (h0 : o_is X a0 (.inl 6)) (h1 : o_is X a1 (.inl 8)) (h : o_Post (fX6_nextOnWay_s3 (o_rf X) a0 a1 x2 x3 x4 τ3 μ0) K) (kh : ∀ (τ3 : Int32) (μ : o_Mem), K (3, τ3) μ → o_Ev X (d + 4) mX6_nextOnWay 3 [some (.ref (o_ad X a0)), some (.ref (o_ad X a1)), some (.int x2), some (.int x3), some (.int x4), some (.int τ3)] [] μ Q) (k44 : ∀ (τ3 : Int32) (μ : o_Mem), K (44, τ3) μ → o_Ev X (d + 4) mX6_nextOnWay 44 [none, none, none, none, none, some (.int τ3)] [] μ Q) (k53 : ∀ (τ3 : Int32) (μ : o_Mem), K (53, τ3) μ → o_Ev X (d + 4) mX6_nextOnWay 53 [none, none, none, none, none, none] [] μ Q) : o_Ev X (d + 4) mX6_nextOnWay 3 [some (.ref (o_ad X a0)), some (.ref (o_ad X a1)), some (.int x2), some (.int x3), some (.int x4), some (.int τ3)] [] μ0 Q := by
  unfold fX6_nextOnWay_s3 at h
  refine s_iload dX6_nextOnWay_3 rfl ?_
  refine s_aload_n (i := 1) dX6_nextOnWay_5 rfl rfl ?_
  refine s_getI h1 flX6_24 rfl dX6_nextOnWay_6 ?_
  refine s_icmp_ge (tgt := 53) dX6_nextOnWay_9 rfl (fun c1 => ?_) (fun c1 => ?_)
  · have h := o_if_t c1 h
    refine s_mask [false, false, false, false, false, false] (L' := [none, none, none, none, none, none]) rfl ?_
    exact k53 0 _ (o_ret h)
  · have h := o_if_f c1 h
    refine s_iload dX6_nextOnWay_12 rfl ?_
    refine s_iload_n (i := 2) dX6_nextOnWay_14 rfl rfl ?_
    refine s_icmp_eq (tgt := 47) dX6_nextOnWay_15 rfl (fun c1 => ?_) (fun c1 => ?_)
    · have h := o_if_t c1 h
      refine s_iinc (v := (τ3 + 1)) dX6_nextOnWay_47 rfl rfl (Nat.le_of_ble_eq_true rfl) rfl ?_
      refine s_goto (tgt := 3) dX6_nextOnWay_50 rfl ?_
      refine s_mask [true, true, true, true, true, true] (L' := [some (.ref (o_ad X a0)), some (.ref (o_ad X a1)), some (.int x2), some (.int x3), some (.int x4), some (.int (τ3 + 1))]) rfl ?_
      exact kh (τ3 + 1) _ (o_ret h)
    · have h := o_if_f c1 h
      refine s_aload_n (i := 0) dX6_nextOnWay_18 rfl rfl ?_
      refine s_getR hX h0 flX6_9 rfl dX6_nextOnWay_19 (fun (g1 : o_is X (o_rf X a0 0) (.inr (0, 6))) => ?_)
      refine s_iload dX6_nextOnWay_22 rfl ?_
      have hc := o_ck_c h
      have h := o_ck_k h
      refine s_ialdK g1 hc rfl dX6_nextOnWay_24 ?_
      refine s_iload dX6_nextOnWay_25 rfl ?_
      refine s_iconst dX6_nextOnWay_27 kI_1 ?_
      refine s_isub dX6_nextOnWay_28 ?_
      refine s_icmp_ne (tgt := 47) dX6_nextOnWay_29 rfl (fun c1 => ?_) (fun c1 => ?_)
      · have h := o_if_f c1 h
        refine s_iinc (v := (τ3 + 1)) dX6_nextOnWay_47 rfl rfl (Nat.le_of_ble_eq_true rfl) rfl ?_
        refine s_goto (tgt := 3) dX6_nextOnWay_50 rfl ?_
        refine s_mask [true, true, true, true, true, true] (L' := [some (.ref (o_ad X a0)), some (.ref (o_ad X a1)), some (.int x2), some (.int x3), some (.int x4), some (.int (τ3 + 1))]) rfl ?_
        exact kh (τ3 + 1) _ (o_ret h)
      · have h := o_if_t c1 h
        refine s_aload_n (i := 1) dX6_nextOnWay_32 rfl rfl ?_
        refine s_iload_n (i := 2) dX6_nextOnWay_33 rfl rfl ?_
        refine s_iload dX6_nextOnWay_34 rfl ?_
        refine s_iload_n (i := 3) dX6_nextOnWay_36 rfl rfl ?_
        refine s_callSi (C := mX6_struckBetween) (As := [.ref (o_ad X a1), .int x2, .int τ3, .int x3]) (rest := []) (L0 := [some (.ref (o_ad X a1)), some (.int x2), some (.int τ3), some (.int x3)]) clX6_30 dX6_nextOnWay_37 rfl rfl (Nat.le_of_ble_eq_true rfl) (Nat.le_of_ble_eq_true rfl) (dnX6_struckBetween hX h1 (o_bdp h)) (fun r1 μ1 h => ?_)
        refine s_iconst dX6_nextOnWay_40 kI_m1 ?_
        refine s_icmp_eq (tgt := 47) dX6_nextOnWay_41 rfl (fun c1 => ?_) (fun c1 => ?_)
        · have h := o_if_t c1 h
          refine s_iinc (v := (τ3 + 1)) dX6_nextOnWay_47 rfl rfl (Nat.le_of_ble_eq_true rfl) rfl ?_
          refine s_goto (tgt := 3) dX6_nextOnWay_50 rfl ?_
          refine s_mask [true, true, true, true, true, true] (L' := [some (.ref (o_ad X a0)), some (.ref (o_ad X a1)), some (.int x2), some (.int x3), some (.int x4), some (.int (τ3 + 1))]) rfl ?_
          exact kh (τ3 + 1) _ (o_ret h)
        · have h := o_if_f c1 h
          refine s_mask [false, false, false, false, false, true] (L' := [none, none, none, none, none, some (.int τ3)]) rfl ?_
          exact k44 τ3 _ (o_ret h)
set_option maxRecDepth 20000 in
theorem dnX6_nextOnWay {X : o_Cx} (hX : o_ok X) {d : Nat} {a0 : Nat} {a1 : Nat} {x2 : Int32} {x3 : Int32} {x4 : Int32} {μ0 : o_Mem} {q : Int32 → o_Mem → Prop} (h0 : o_is X a0 (.inl 6)) (h1 : o_is X a1 (.inl 8)) (h : o_Post (fX6_nextOnWay (o_rf X) a0 a1 x2 x3 x4 μ0) q) : o_Ev X (d + 4) mX6_nextOnWay 0 [some (.ref (o_ad X a0)), some (.ref (o_ad X a1)), some (.int x2), some (.int x3), some (.int x4), none] [] μ0 (o_QI q) := by
  unfold fX6_nextOnWay at h
  refine s_iconst dX6_nextOnWay_0 kI_0 ?_
  refine s_istore dX6_nextOnWay_1 (Nat.le_of_ble_eq_true rfl) rfl ?_
  refine s_mask [true, true, true, true, true, true] (L' := [some (.ref (o_ad X a0)), some (.ref (o_ad X a1)), some (.int x2), some (.int x3), some (.int x4), some (.int 0)]) rfl ?_
  refine o_lp_ev (fun τ3 => [some (.ref (o_ad X a0)), some (.ref (o_ad X a1)), some (.int x2), some (.int x3), some (.int x4), some (.int τ3)]) (fun τ3 μ _K h kv ke3 => dnX6_nextOnWay_s3 hX h0 h1 h kv (fun τ3 μ1 h => ?_) (fun τ3 μ1 h => ?_)) o_fuel 0 μ0 (o_bdp h)
  · have h := o_if_t rfl (ke3 (44, τ3) μ1 (o_ne rfl) h)
    refine s_iload dX6_nextOnWay_44 rfl ?_
    exact s_ireturn rfl dX6_nextOnWay_46 ⟨_, rfl, o_ret h⟩
  · have h := o_if_t rfl (o_if_f (o_ne rfl) (ke3 (53, τ3) μ1 (o_ne rfl) h))
    refine s_iconst dX6_nextOnWay_53 kI_m1 ?_
    exact s_ireturn rfl dX6_nextOnWay_54 ⟨_, rfl, o_ret h⟩
theorem dX6_findWays_0 : decode cX6_findWays 0 = .ok (.aload_n 0, 1) := by decide +kernel
theorem dX6_findWays_1 : decode cX6_findWays 1 = .ok (.getfield 9, 3) := by decide +kernel
theorem dX6_findWays_4 : decode cX6_findWays 4 = .ok (.iconst (-1), 1) := by decide +kernel
theorem dX6_findWays_5 : decode cX6_findWays 5 = .ok (.invokestatic 18, 3) := by decide +kernel
theorem dX6_findWays_8 : decode cX6_findWays 8 = .ok (.iconst 0, 1) := by decide +kernel
theorem dX6_findWays_9 : decode cX6_findWays 9 = .ok (.istore 5, 2) := by decide +kernel
theorem dX6_findWays_11 : decode cX6_findWays 11 = .ok (.iload 5, 2) := by decide +kernel
theorem dX6_findWays_13 : decode cX6_findWays 13 = .ok (.aload_n 1, 1) := by decide +kernel
theorem dX6_findWays_14 : decode cX6_findWays 14 = .ok (.getfield 24, 3) := by decide +kernel
theorem dX6_findWays_17 : decode cX6_findWays 17 = .ok (.if_icmp .ge 36, 3) := by decide +kernel
theorem dX6_findWays_20 : decode cX6_findWays 20 = .ok (.iload 5, 2) := by decide +kernel
theorem dX6_findWays_22 : decode cX6_findWays 22 = .ok (.iload_n 2, 1) := by decide +kernel
theorem dX6_findWays_23 : decode cX6_findWays 23 = .ok (.if_icmp .eq 24, 3) := by decide +kernel
theorem dX6_findWays_26 : decode cX6_findWays 26 = .ok (.aload_n 1, 1) := by decide +kernel
theorem dX6_findWays_27 : decode cX6_findWays 27 = .ok (.iload 5, 2) := by decide +kernel
theorem dX6_findWays_29 : decode cX6_findWays 29 = .ok (.iload_n 2, 1) := by decide +kernel
theorem dX6_findWays_30 : decode cX6_findWays 30 = .ok (.iload_n 3, 1) := by decide +kernel
theorem dX6_findWays_31 : decode cX6_findWays 31 = .ok (.invokestatic 30, 3) := by decide +kernel
theorem dX6_findWays_34 : decode cX6_findWays 34 = .ok (.iload 4, 2) := by decide +kernel
theorem dX6_findWays_36 : decode cX6_findWays 36 = .ok (.if_icmp .ne 11, 3) := by decide +kernel
theorem dX6_findWays_39 : decode cX6_findWays 39 = .ok (.aload_n 0, 1) := by decide +kernel
theorem dX6_findWays_40 : decode cX6_findWays 40 = .ok (.getfield 9, 3) := by decide +kernel
theorem dX6_findWays_43 : decode cX6_findWays 43 = .ok (.iload 5, 2) := by decide +kernel
theorem dX6_findWays_45 : decode cX6_findWays 45 = .ok (.iconst 1, 1) := by decide +kernel
theorem dX6_findWays_46 : decode cX6_findWays 46 = .ok (.iastore, 1) := by decide +kernel
theorem dX6_findWays_47 : decode cX6_findWays 47 = .ok (.iinc 5 1, 3) := by decide +kernel
theorem dX6_findWays_50 : decode cX6_findWays 50 = .ok (.goto (-39), 3) := by decide +kernel
theorem dX6_findWays_53 : decode cX6_findWays 53 = .ok (.iconst 2, 1) := by decide +kernel
theorem dX6_findWays_54 : decode cX6_findWays 54 = .ok (.istore 5, 2) := by decide +kernel
theorem dX6_findWays_56 : decode cX6_findWays 56 = .ok (.iload 5, 2) := by decide +kernel
theorem dX6_findWays_58 : decode cX6_findWays 58 = .ok (.aload_n 1, 1) := by decide +kernel
theorem dX6_findWays_59 : decode cX6_findWays 59 = .ok (.getfield 24, 3) := by decide +kernel
theorem dX6_findWays_62 : decode cX6_findWays 62 = .ok (.if_icmp .gt 61, 3) := by decide +kernel
theorem dX6_findWays_65 : decode cX6_findWays 65 = .ok (.iconst 0, 1) := by decide +kernel
theorem dX6_findWays_66 : decode cX6_findWays 66 = .ok (.istore 6, 2) := by decide +kernel
theorem dX6_findWays_68 : decode cX6_findWays 68 = .ok (.iload 6, 2) := by decide +kernel
theorem dX6_findWays_70 : decode cX6_findWays 70 = .ok (.aload_n 1, 1) := by decide +kernel
theorem dX6_findWays_71 : decode cX6_findWays 71 = .ok (.getfield 24, 3) := by decide +kernel
theorem dX6_findWays_74 : decode cX6_findWays 74 = .ok (.if_icmp .ge 43, 3) := by decide +kernel
theorem dX6_findWays_77 : decode cX6_findWays 77 = .ok (.aload_n 0, 1) := by decide +kernel
theorem dX6_findWays_78 : decode cX6_findWays 78 = .ok (.getfield 9, 3) := by decide +kernel
theorem dX6_findWays_81 : decode cX6_findWays 81 = .ok (.iload 6, 2) := by decide +kernel
theorem dX6_findWays_83 : decode cX6_findWays 83 = .ok (.iaload, 1) := by decide +kernel
theorem dX6_findWays_84 : decode cX6_findWays 84 = .ok (.iconst (-1), 1) := by decide +kernel
theorem dX6_findWays_85 : decode cX6_findWays 85 = .ok (.if_icmp .ne 26, 3) := by decide +kernel
theorem dX6_findWays_88 : decode cX6_findWays 88 = .ok (.aload_n 0, 1) := by decide +kernel
theorem dX6_findWays_89 : decode cX6_findWays 89 = .ok (.aload_n 1, 1) := by decide +kernel
theorem dX6_findWays_90 : decode cX6_findWays 90 = .ok (.iload 6, 2) := by decide +kernel
theorem dX6_findWays_92 : decode cX6_findWays 92 = .ok (.iload_n 3, 1) := by decide +kernel
theorem dX6_findWays_93 : decode cX6_findWays 93 = .ok (.iload 5, 2) := by decide +kernel
theorem dX6_findWays_95 : decode cX6_findWays 95 = .ok (.invokevirtual 34, 3) := by decide +kernel
theorem dX6_findWays_98 : decode cX6_findWays 98 = .ok (.iconst (-1), 1) := by decide +kernel
theorem dX6_findWays_99 : decode cX6_findWays 99 = .ok (.if_icmp .eq 12, 3) := by decide +kernel
theorem dX6_findWays_102 : decode cX6_findWays 102 = .ok (.aload_n 0, 1) := by decide +kernel
theorem dX6_findWays_103 : decode cX6_findWays 103 = .ok (.getfield 9, 3) := by decide +kernel
theorem dX6_findWays_106 : decode cX6_findWays 106 = .ok (.iload 6, 2) := by decide +kernel
theorem dX6_findWays_108 : decode cX6_findWays 108 = .ok (.iload 5, 2) := by decide +kernel
theorem dX6_findWays_110 : decode cX6_findWays 110 = .ok (.iastore, 1) := by decide +kernel
theorem dX6_findWays_111 : decode cX6_findWays 111 = .ok (.iinc 6 1, 3) := by decide +kernel
theorem dX6_findWays_114 : decode cX6_findWays 114 = .ok (.goto (-46), 3) := by decide +kernel
theorem dX6_findWays_117 : decode cX6_findWays 117 = .ok (.iinc 5 1, 3) := by decide +kernel
theorem dX6_findWays_120 : decode cX6_findWays 120 = .ok (.goto (-64), 3) := by decide +kernel
theorem dX6_findWays_123 : decode cX6_findWays 123 = .ok (.return_, 1) := by decide +kernel
noncomputable def fX6_findWays_s11 (rf : Nat → Nat → Nat) (a0 : Nat) (a1 : Nat) (x2 : Int32) (x3 : Int32) (x4 : Int32) (τ11 : Int32) (μ0 : o_Mem) : Option ((Nat × (Int32)) × o_Mem) :=
  if (μ0.1 a1 2) ≤ τ11 then (
    some ((53, 0), μ0))
  else (
    if τ11 = x2 then (
      some ((11, (τ11 + 1)), μ0))
    else (
      o_bd (fX6_struckBetween rf a1 τ11 x2 x3 μ0) fun r1 μ1 =>
      if r1 = x4 then (
        o_ck (0 ≤ (τ11).toInt ∧ (τ11).toInt < 6) <|
        o_seq (o_wI μ1 (rf a0 0) τ11.toNatClampNeg 1) fun μ2 =>
        some ((11, (τ11 + 1)), μ2))
      else (
        some ((11, (τ11 + 1)), μ1))))
noncomputable def fX6_findWays_s68 (rf : Nat → Nat → Nat) (a0 : Nat) (a1 : Nat) (x3 : Int32) (x5 : Int32) (τ68 : Int32) (μ0 : o_Mem) : Option ((Nat × (Int32)) × o_Mem) :=
  if (μ0.1 a1 2) ≤ τ68 then (
    some ((117, 0), μ0))
  else (
    o_ck (0 ≤ (τ68).toInt ∧ (τ68).toInt < 6) <|
    if (μ0.1 (rf a0 0) τ68.toNatClampNeg) = (-1) then (
      o_bd (fX6_nextOnWay rf a0 a1 τ68 x3 x5 μ0) fun r1 μ1 =>
      if r1 = (-1) then (
        some ((68, (τ68 + 1)), μ1))
      else (
        o_ck (0 ≤ (τ68).toInt ∧ (τ68).toInt < 6) <|
        o_seq (o_wI μ1 (rf a0 0) τ68.toNatClampNeg x5) fun μ2 =>
        some ((68, (τ68 + 1)), μ2)))
    else (
      some ((68, (τ68 + 1)), μ0)))
noncomputable def fX6_findWays_s56 (rf : Nat → Nat → Nat) (a0 : Nat) (a1 : Nat) (x3 : Int32) (τ56 : Int32) (μ0 : o_Mem) : Option ((Nat × (Int32)) × o_Mem) :=
  if (μ0.1 a1 2) < τ56 then (
    some ((123, 0), μ0))
  else (
    o_bd (o_lp 68 (fX6_findWays_s68 rf a0 a1 x3 τ56) o_fuel (0 : Int32) μ0) fun ex1 μ1 =>
    if ex1.1 = 117 then (
      some ((56, (τ56 + 1)), μ1))
    else
      none)
noncomputable def fX6_findWays (rf : Nat → Nat → Nat) (a0 : Nat) (a1 : Nat) (x2 : Int32) (x3 : Int32) (x4 : Int32) (μ0 : o_Mem) : Option (Unit × o_Mem) :=
  o_seq (o_sI μ0 (rf a0 0) (o_fill (μ0.1 (rf a0 0)) 6 (-1))) fun μ1 =>
  o_bd (o_lp 11 (fX6_findWays_s11 rf a0 a1 x2 x3 x4) o_fuel (0 : Int32) μ1) fun ex2 μ2 =>
  if ex2.1 = 53 then (
    o_bd (o_lp 56 (fX6_findWays_s56 rf a0 a1 x3) o_fuel (2 : Int32) μ2) fun ex3 μ3 =>
    if ex3.1 = 123 then (
      some ((), μ3))
    else
      none)
  else
    none
set_option maxRecDepth 20000 in
theorem dnX6_findWays_s11 {X : o_Cx} (hX : o_ok X) {d : Nat} {a0 : Nat} {a1 : Nat} {x2 : Int32} {x3 : Int32} {x4 : Int32} {τ11 : Int32} {μ0 : o_Mem} {K : (Nat × (Int32)) → o_Mem → Prop} {Q : Option Value → o_Mem → Prop} (h0 : o_is X a0 (.inl 6)) (h1 : o_is X a1 (.inl 8)) (h : o_Post (fX6_findWays_s11 (o_rf X) a0 a1 x2 x3 x4 τ11 μ0) K) (kh : ∀ (τ11 : Int32) (μ : o_Mem), K (11, τ11) μ → o_Ev X (d + 5) mX6_findWays 11 [some (.ref (o_ad X a0)), some (.ref (o_ad X a1)), some (.int x2), some (.int x3), some (.int x4), some (.int τ11), none] [] μ Q) (k53 : ∀ (τ11 : Int32) (μ : o_Mem), K (53, τ11) μ → o_Ev X (d + 5) mX6_findWays 53 [some (.ref (o_ad X a0)), some (.ref (o_ad X a1)), none, some (.int x3), none, none, none] [] μ Q) : o_Ev X (d + 5) mX6_findWays 11 [some (.ref (o_ad X a0)), some (.ref (o_ad X a1)), some (.int x2), some (.int x3), some (.int x4), some (.int τ11), none] [] μ0 Q := by
  unfold fX6_findWays_s11 at h
  refine s_iload dX6_findWays_11 rfl ?_
  refine s_aload_n (i := 1) dX6_findWays_13 rfl rfl ?_
  refine s_getI h1 flX6_24 rfl dX6_findWays_14 ?_
  refine s_icmp_ge (tgt := 53) dX6_findWays_17 rfl (fun c1 => ?_) (fun c1 => ?_)
  · have h := o_if_t c1 h
    refine s_mask [true, true, false, true, false, false, false] (L' := [some (.ref (o_ad X a0)), some (.ref (o_ad X a1)), none, some (.int x3), none, none, none]) rfl ?_
    exact k53 0 _ (o_ret h)
  · have h := o_if_f c1 h
    refine s_iload dX6_findWays_20 rfl ?_
    refine s_iload_n (i := 2) dX6_findWays_22 rfl rfl ?_
    refine s_icmp_eq (tgt := 47) dX6_findWays_23 rfl (fun c1 => ?_) (fun c1 => ?_)
    · have h := o_if_t c1 h
      refine s_iinc (v := (τ11 + 1)) dX6_findWays_47 rfl rfl (Nat.le_of_ble_eq_true rfl) rfl ?_
      refine s_goto (tgt := 11) dX6_findWays_50 rfl ?_
      refine s_mask [true, true, true, true, true, true, false] (L' := [some (.ref (o_ad X a0)), some (.ref (o_ad X a1)), some (.int x2), some (.int x3), some (.int x4), some (.int (τ11 + 1)), none]) rfl ?_
      exact kh (τ11 + 1) _ (o_ret h)
    · have h := o_if_f c1 h
      refine s_aload_n (i := 1) dX6_findWays_26 rfl rfl ?_
      refine s_iload dX6_findWays_27 rfl ?_
      refine s_iload_n (i := 2) dX6_findWays_29 rfl rfl ?_
      refine s_iload_n (i := 3) dX6_findWays_30 rfl rfl ?_
      refine s_callSi (C := mX6_struckBetween) (As := [.ref (o_ad X a1), .int τ11, .int x2, .int x3]) (rest := []) (L0 := [some (.ref (o_ad X a1)), some (.int τ11), some (.int x2), some (.int x3)]) clX6_30 dX6_findWays_31 rfl rfl (Nat.le_of_ble_eq_true rfl) (Nat.le_of_ble_eq_true rfl) (dnX6_struckBetween hX h1 (o_bdp h)) (fun r1 μ1 h => ?_)
      refine s_iload dX6_findWays_34 rfl ?_
      refine s_icmp_ne (tgt := 47) dX6_findWays_36 rfl (fun c1 => ?_) (fun c1 => ?_)
      · have h := o_if_f c1 h
        refine s_iinc (v := (τ11 + 1)) dX6_findWays_47 rfl rfl (Nat.le_of_ble_eq_true rfl) rfl ?_
        refine s_goto (tgt := 11) dX6_findWays_50 rfl ?_
        refine s_mask [true, true, true, true, true, true, false] (L' := [some (.ref (o_ad X a0)), some (.ref (o_ad X a1)), some (.int x2), some (.int x3), some (.int x4), some (.int (τ11 + 1)), none]) rfl ?_
        exact kh (τ11 + 1) _ (o_ret h)
      · have h := o_if_t c1 h
        refine s_aload_n (i := 0) dX6_findWays_39 rfl rfl ?_
        refine s_getR hX h0 flX6_9 rfl dX6_findWays_40 (fun (g1 : o_is X (o_rf X a0 0) (.inr (0, 6))) => ?_)
        refine s_iload dX6_findWays_43 rfl ?_
        refine s_iconst dX6_findWays_45 kI_1 ?_
        have hc := o_ck_c h
        have h := o_ck_k h
        refine s_iastK hX g1 hc rfl dX6_findWays_46 (o_gen h (fun μ2 h => ?_))
        refine s_iinc (v := (τ11 + 1)) dX6_findWays_47 rfl rfl (Nat.le_of_ble_eq_true rfl) rfl ?_
        refine s_goto (tgt := 11) dX6_findWays_50 rfl ?_
        refine s_mask [true, true, true, true, true, true, false] (L' := [some (.ref (o_ad X a0)), some (.ref (o_ad X a1)), some (.int x2), some (.int x3), some (.int x4), some (.int (τ11 + 1)), none]) rfl ?_
        exact kh (τ11 + 1) _ (o_ret h)
set_option maxRecDepth 20000 in
theorem dnX6_findWays_s68 {X : o_Cx} (hX : o_ok X) {d : Nat} {a0 : Nat} {a1 : Nat} {x3 : Int32} {x5 : Int32} {τ68 : Int32} {μ0 : o_Mem} {K : (Nat × (Int32)) → o_Mem → Prop} {Q : Option Value → o_Mem → Prop} (h0 : o_is X a0 (.inl 6)) (h1 : o_is X a1 (.inl 8)) (h : o_Post (fX6_findWays_s68 (o_rf X) a0 a1 x3 x5 τ68 μ0) K) (kh : ∀ (τ68 : Int32) (μ : o_Mem), K (68, τ68) μ → o_Ev X (d + 5) mX6_findWays 68 [some (.ref (o_ad X a0)), some (.ref (o_ad X a1)), none, some (.int x3), none, some (.int x5), some (.int τ68)] [] μ Q) (k117 : ∀ (τ68 : Int32) (μ : o_Mem), K (117, τ68) μ → o_Ev X (d + 5) mX6_findWays 117 [some (.ref (o_ad X a0)), some (.ref (o_ad X a1)), none, some (.int x3), none, some (.int x5), none] [] μ Q) : o_Ev X (d + 5) mX6_findWays 68 [some (.ref (o_ad X a0)), some (.ref (o_ad X a1)), none, some (.int x3), none, some (.int x5), some (.int τ68)] [] μ0 Q := by
  unfold fX6_findWays_s68 at h
  refine s_iload dX6_findWays_68 rfl ?_
  refine s_aload_n (i := 1) dX6_findWays_70 rfl rfl ?_
  refine s_getI h1 flX6_24 rfl dX6_findWays_71 ?_
  refine s_icmp_ge (tgt := 117) dX6_findWays_74 rfl (fun c1 => ?_) (fun c1 => ?_)
  · have h := o_if_t c1 h
    refine s_mask [true, true, false, true, false, true, false] (L' := [some (.ref (o_ad X a0)), some (.ref (o_ad X a1)), none, some (.int x3), none, some (.int x5), none]) rfl ?_
    exact k117 0 _ (o_ret h)
  · have h := o_if_f c1 h
    refine s_aload_n (i := 0) dX6_findWays_77 rfl rfl ?_
    refine s_getR hX h0 flX6_9 rfl dX6_findWays_78 (fun (g1 : o_is X (o_rf X a0 0) (.inr (0, 6))) => ?_)
    refine s_iload dX6_findWays_81 rfl ?_
    have hc := o_ck_c h
    have h := o_ck_k h
    refine s_ialdK g1 hc rfl dX6_findWays_83 ?_
    refine s_iconst dX6_findWays_84 kI_m1 ?_
    refine s_icmp_ne (tgt := 111) dX6_findWays_85 rfl (fun c1 => ?_) (fun c1 => ?_)
    · have h := o_if_f c1 h
      refine s_iinc (v := (τ68 + 1)) dX6_findWays_111 rfl rfl (Nat.le_of_ble_eq_true rfl) rfl ?_
      refine s_goto (tgt := 68) dX6_findWays_114 rfl ?_
      refine s_mask [true, true, false, true, false, true, true] (L' := [some (.ref (o_ad X a0)), some (.ref (o_ad X a1)), none, some (.int x3), none, some (.int x5), some (.int (τ68 + 1))]) rfl ?_
      exact kh (τ68 + 1) _ (o_ret h)
    · have h := o_if_t c1 h
      refine s_aload_n (i := 0) dX6_findWays_88 rfl rfl ?_
      refine s_aload_n (i := 1) dX6_findWays_89 rfl rfl ?_
      refine s_iload dX6_findWays_90 rfl ?_
      refine s_iload_n (i := 3) dX6_findWays_92 rfl rfl ?_
      refine s_iload dX6_findWays_93 rfl ?_
      refine s_callVi (C := mX6_nextOnWay) (As := [.ref (o_ad X a1), .int τ68, .int x3, .int x5]) (rest := []) (L0 := [some (.ref (o_ad X a0)), some (.ref (o_ad X a1)), some (.int τ68), some (.int x3), some (.int x5), none]) hX h0 clX6_34 dX6_findWays_95 rfl rfl (Nat.le_of_ble_eq_true rfl) (Nat.le_of_ble_eq_true rfl) (dnX6_nextOnWay hX h0 h1 (o_bdp h)) (fun r1 μ1 h => ?_)
      refine s_iconst dX6_findWays_98 kI_m1 ?_
      refine s_icmp_eq (tgt := 111) dX6_findWays_99 rfl (fun c1 => ?_) (fun c1 => ?_)
      · have h := o_if_t c1 h
        refine s_iinc (v := (τ68 + 1)) dX6_findWays_111 rfl rfl (Nat.le_of_ble_eq_true rfl) rfl ?_
        refine s_goto (tgt := 68) dX6_findWays_114 rfl ?_
        refine s_mask [true, true, false, true, false, true, true] (L' := [some (.ref (o_ad X a0)), some (.ref (o_ad X a1)), none, some (.int x3), none, some (.int x5), some (.int (τ68 + 1))]) rfl ?_
        exact kh (τ68 + 1) _ (o_ret h)
      · have h := o_if_f c1 h
        refine s_aload_n (i := 0) dX6_findWays_102 rfl rfl ?_
        refine s_getR hX h0 flX6_9 rfl dX6_findWays_103 (fun (g2 : o_is X (o_rf X a0 0) (.inr (0, 6))) => ?_)
        refine s_iload dX6_findWays_106 rfl ?_
        refine s_iload dX6_findWays_108 rfl ?_
        have hc := o_ck_c h
        have h := o_ck_k h
        refine s_iastK hX g2 hc rfl dX6_findWays_110 (o_gen h (fun μ2 h => ?_))
        refine s_iinc (v := (τ68 + 1)) dX6_findWays_111 rfl rfl (Nat.le_of_ble_eq_true rfl) rfl ?_
        refine s_goto (tgt := 68) dX6_findWays_114 rfl ?_
        refine s_mask [true, true, false, true, false, true, true] (L' := [some (.ref (o_ad X a0)), some (.ref (o_ad X a1)), none, some (.int x3), none, some (.int x5), some (.int (τ68 + 1))]) rfl ?_
        exact kh (τ68 + 1) _ (o_ret h)
set_option maxRecDepth 20000 in
theorem dnX6_findWays_s56 {X : o_Cx} (hX : o_ok X) {d : Nat} {a0 : Nat} {a1 : Nat} {x3 : Int32} {τ56 : Int32} {μ0 : o_Mem} {K : (Nat × (Int32)) → o_Mem → Prop} {Q : Option Value → o_Mem → Prop} (h0 : o_is X a0 (.inl 6)) (h1 : o_is X a1 (.inl 8)) (h : o_Post (fX6_findWays_s56 (o_rf X) a0 a1 x3 τ56 μ0) K) (kh : ∀ (τ56 : Int32) (μ : o_Mem), K (56, τ56) μ → o_Ev X (d + 5) mX6_findWays 56 [some (.ref (o_ad X a0)), some (.ref (o_ad X a1)), none, some (.int x3), none, some (.int τ56), none] [] μ Q) (k123 : ∀ (τ56 : Int32) (μ : o_Mem), K (123, τ56) μ → o_Ev X (d + 5) mX6_findWays 123 [none, none, none, none, none, none, none] [] μ Q) : o_Ev X (d + 5) mX6_findWays 56 [some (.ref (o_ad X a0)), some (.ref (o_ad X a1)), none, some (.int x3), none, some (.int τ56), none] [] μ0 Q := by
  unfold fX6_findWays_s56 at h
  refine s_iload dX6_findWays_56 rfl ?_
  refine s_aload_n (i := 1) dX6_findWays_58 rfl rfl ?_
  refine s_getI h1 flX6_24 rfl dX6_findWays_59 ?_
  refine s_icmp_gt (tgt := 123) dX6_findWays_62 rfl (fun c1 => ?_) (fun c1 => ?_)
  · have h := o_if_t c1 h
    refine s_mask [false, false, false, false, false, false, false] (L' := [none, none, none, none, none, none, none]) rfl ?_
    exact k123 0 _ (o_ret h)
  · have h := o_if_f c1 h
    refine s_iconst dX6_findWays_65 kI_0 ?_
    refine s_istore dX6_findWays_66 (Nat.le_of_ble_eq_true rfl) rfl ?_
    refine s_mask [true, true, false, true, false, true, true] (L' := [some (.ref (o_ad X a0)), some (.ref (o_ad X a1)), none, some (.int x3), none, some (.int τ56), some (.int 0)]) rfl ?_
    refine o_lp_ev (fun τ68 => [some (.ref (o_ad X a0)), some (.ref (o_ad X a1)), none, some (.int x3), none, some (.int τ56), some (.int τ68)]) (fun τ68 μ _K h kv ke68 => dnX6_findWays_s68 hX h0 h1 h kv (fun τ68 μ1 h => ?_)) o_fuel 0 μ0 (o_bdp h)
    · have h := o_if_t rfl (ke68 (117, τ68) μ1 (o_ne rfl) h)
      refine s_iinc (v := (τ56 + 1)) dX6_findWays_117 rfl rfl (Nat.le_of_ble_eq_true rfl) rfl ?_
      refine s_goto (tgt := 56) dX6_findWays_120 rfl ?_
      refine s_mask [true, true, false, true, false, true, false] (L' := [some (.ref (o_ad X a0)), some (.ref (o_ad X a1)), none, some (.int x3), none, some (.int (τ56 + 1)), none]) rfl ?_
      exact kh (τ56 + 1) _ (o_ret h)
set_option maxRecDepth 20000 in
theorem dnX6_findWays {X : o_Cx} (hX : o_ok X) {d : Nat} {a0 : Nat} {a1 : Nat} {x2 : Int32} {x3 : Int32} {x4 : Int32} {μ0 : o_Mem} {q : Unit → o_Mem → Prop} (h0 : o_is X a0 (.inl 6)) (h1 : o_is X a1 (.inl 8)) (h : o_Post (fX6_findWays (o_rf X) a0 a1 x2 x3 x4 μ0) q) : o_Ev X (d + 5) mX6_findWays 0 [some (.ref (o_ad X a0)), some (.ref (o_ad X a1)), some (.int x2), some (.int x3), some (.int x4), none, none] [] μ0 (o_QU q) := by
  unfold fX6_findWays at h
  refine s_aload_n (i := 0) dX6_findWays_0 rfl rfl ?_
  refine s_getR hX h0 flX6_9 rfl dX6_findWays_1 (fun (g1 : o_is X (o_rf X a0 0) (.inr (0, 6))) => ?_)
  refine s_iconst dX6_findWays_4 kI_m1 ?_
  refine s_fillI (rest := []) hX g1 mlX6_18 (by decide) (Nat.le_of_ble_eq_true rfl) dX6_findWays_5 (o_gen h (fun μ1 h => ?_))
  refine s_iconst dX6_findWays_8 kI_0 ?_
  refine s_istore dX6_findWays_9 (Nat.le_of_ble_eq_true rfl) rfl ?_
  refine s_mask [true, true, true, true, true, true, false] (L' := [some (.ref (o_ad X a0)), some (.ref (o_ad X a1)), some (.int x2), some (.int x3), some (.int x4), some (.int 0), none]) rfl ?_
  refine o_lp_ev (fun τ11 => [some (.ref (o_ad X a0)), some (.ref (o_ad X a1)), some (.int x2), some (.int x3), some (.int x4), some (.int τ11), none]) (fun τ11 μ _K h kv ke11 => dnX6_findWays_s11 hX h0 h1 h kv (fun τ11 μ2 h => ?_)) o_fuel 0 μ1 (o_bdp h)
  · have h := o_if_t rfl (ke11 (53, τ11) μ2 (o_ne rfl) h)
    refine s_iconst dX6_findWays_53 kI_2 ?_
    refine s_istore dX6_findWays_54 (Nat.le_of_ble_eq_true rfl) rfl ?_
    refine s_mask [true, true, false, true, false, true, false] (L' := [some (.ref (o_ad X a0)), some (.ref (o_ad X a1)), none, some (.int x3), none, some (.int 2), none]) rfl ?_
    refine o_lp_ev (fun τ56 => [some (.ref (o_ad X a0)), some (.ref (o_ad X a1)), none, some (.int x3), none, some (.int τ56), none]) (fun τ56 μ _K h kv ke56 => dnX6_findWays_s56 hX h0 h1 h kv (fun τ56 μ3 h => ?_)) o_fuel 2 μ2 (o_bdp h)
    · have h := o_if_t rfl (ke56 (123, τ56) μ3 (o_ne rfl) h)
      exact s_return rfl dX6_findWays_123 ⟨rfl, o_ret h⟩
theorem dX6_firstOnWay_0 : decode cX6_firstOnWay 0 = .ok (.aload_n 0, 1) := by decide +kernel
theorem dX6_firstOnWay_1 : decode cX6_firstOnWay 1 = .ok (.getfield 9, 3) := by decide +kernel
theorem dX6_firstOnWay_4 : decode cX6_firstOnWay 4 = .ok (.iload_n 2, 1) := by decide +kernel
theorem dX6_firstOnWay_5 : decode cX6_firstOnWay 5 = .ok (.iaload, 1) := by decide +kernel
theorem dX6_firstOnWay_6 : decode cX6_firstOnWay 6 = .ok (.iconst (-1), 1) := by decide +kernel
theorem dX6_firstOnWay_7 : decode cX6_firstOnWay 7 = .ok (.if_icmp .ne 5, 3) := by decide +kernel
theorem dX6_firstOnWay_10 : decode cX6_firstOnWay 10 = .ok (.iconst (-1), 1) := by decide +kernel
theorem dX6_firstOnWay_11 : decode cX6_firstOnWay 11 = .ok (.ireturn, 1) := by decide +kernel
theorem dX6_firstOnWay_12 : decode cX6_firstOnWay 12 = .ok (.aload_n 0, 1) := by decide +kernel
theorem dX6_firstOnWay_13 : decode cX6_firstOnWay 13 = .ok (.getfield 9, 3) := by decide +kernel
theorem dX6_firstOnWay_16 : decode cX6_firstOnWay 16 = .ok (.iload_n 2, 1) := by decide +kernel
theorem dX6_firstOnWay_17 : decode cX6_firstOnWay 17 = .ok (.iaload, 1) := by decide +kernel
theorem dX6_firstOnWay_18 : decode cX6_firstOnWay 18 = .ok (.iconst 1, 1) := by decide +kernel
theorem dX6_firstOnWay_19 : decode cX6_firstOnWay 19 = .ok (.if_icmp .ne 7, 3) := by decide +kernel
theorem dX6_firstOnWay_22 : decode cX6_firstOnWay 22 = .ok (.iload_n 3, 1) := by decide +kernel
theorem dX6_firstOnWay_23 : decode cX6_firstOnWay 23 = .ok (.goto 17, 3) := by decide +kernel
theorem dX6_firstOnWay_26 : decode cX6_firstOnWay 26 = .ok (.aload_n 0, 1) := by decide +kernel
theorem dX6_firstOnWay_27 : decode cX6_firstOnWay 27 = .ok (.aload_n 1, 1) := by decide +kernel
theorem dX6_firstOnWay_28 : decode cX6_firstOnWay 28 = .ok (.iload_n 2, 1) := by decide +kernel
theorem dX6_firstOnWay_29 : decode cX6_firstOnWay 29 = .ok (.iload 4, 2) := by decide +kernel
theorem dX6_firstOnWay_31 : decode cX6_firstOnWay 31 = .ok (.aload_n 0, 1) := by decide +kernel
theorem dX6_firstOnWay_32 : decode cX6_firstOnWay 32 = .ok (.getfield 9, 3) := by decide +kernel
theorem dX6_firstOnWay_35 : decode cX6_firstOnWay 35 = .ok (.iload_n 2, 1) := by decide +kernel
theorem dX6_firstOnWay_36 : decode cX6_firstOnWay 36 = .ok (.iaload, 1) := by decide +kernel
theorem dX6_firstOnWay_37 : decode cX6_firstOnWay 37 = .ok (.invokevirtual 34, 3) := by decide +kernel
theorem dX6_firstOnWay_40 : decode cX6_firstOnWay 40 = .ok (.ireturn, 1) := by decide +kernel
noncomputable def fX6_firstOnWay (rf : Nat → Nat → Nat) (a0 : Nat) (a1 : Nat) (x2 : Int32) (x3 : Int32) (x4 : Int32) (μ0 : o_Mem) : Option (Int32 × o_Mem) :=
  o_ck (0 ≤ (x2).toInt ∧ (x2).toInt < 6) <|
  if (μ0.1 (rf a0 0) x2.toNatClampNeg) = (-1) then (
    some ((-1), μ0))
  else (
    o_ck (0 ≤ (x2).toInt ∧ (x2).toInt < 6) <|
    if (μ0.1 (rf a0 0) x2.toNatClampNeg) = 1 then (
      some (x3, μ0))
    else (
      o_ck (0 ≤ (x2).toInt ∧ (x2).toInt < 6) <|
      o_bd (fX6_nextOnWay rf a0 a1 x2 x4 (μ0.1 (rf a0 0) x2.toNatClampNeg) μ0) fun r1 μ1 =>
      some (r1, μ1)))
set_option maxRecDepth 20000 in
theorem dnX6_firstOnWay {X : o_Cx} (hX : o_ok X) {d : Nat} {a0 : Nat} {a1 : Nat} {x2 : Int32} {x3 : Int32} {x4 : Int32} {μ0 : o_Mem} {q : Int32 → o_Mem → Prop} (h0 : o_is X a0 (.inl 6)) (h1 : o_is X a1 (.inl 8)) (h : o_Post (fX6_firstOnWay (o_rf X) a0 a1 x2 x3 x4 μ0) q) : o_Ev X (d + 5) mX6_firstOnWay 0 [some (.ref (o_ad X a0)), some (.ref (o_ad X a1)), some (.int x2), some (.int x3), some (.int x4)] [] μ0 (o_QI q) := by
  unfold fX6_firstOnWay at h
  refine s_aload_n (i := 0) dX6_firstOnWay_0 rfl rfl ?_
  refine s_getR hX h0 flX6_9 rfl dX6_firstOnWay_1 (fun (g1 : o_is X (o_rf X a0 0) (.inr (0, 6))) => ?_)
  refine s_iload_n (i := 2) dX6_firstOnWay_4 rfl rfl ?_
  have hc := o_ck_c h
  have h := o_ck_k h
  refine s_ialdK g1 hc rfl dX6_firstOnWay_5 ?_
  refine s_iconst dX6_firstOnWay_6 kI_m1 ?_
  refine s_icmp_ne (tgt := 12) dX6_firstOnWay_7 rfl (fun c1 => ?_) (fun c1 => ?_)
  · have h := o_if_f c1 h
    refine s_aload_n (i := 0) dX6_firstOnWay_12 rfl rfl ?_
    refine s_getR hX h0 flX6_9 rfl dX6_firstOnWay_13 (fun (g2 : o_is X (o_rf X a0 0) (.inr (0, 6))) => ?_)
    refine s_iload_n (i := 2) dX6_firstOnWay_16 rfl rfl ?_
    have hc := o_ck_c h
    have h := o_ck_k h
    refine s_ialdK g2 hc rfl dX6_firstOnWay_17 ?_
    refine s_iconst dX6_firstOnWay_18 kI_1 ?_
    refine s_icmp_ne (tgt := 26) dX6_firstOnWay_19 rfl (fun c1 => ?_) (fun c1 => ?_)
    · have h := o_if_f c1 h
      refine s_aload_n (i := 0) dX6_firstOnWay_26 rfl rfl ?_
      refine s_aload_n (i := 1) dX6_firstOnWay_27 rfl rfl ?_
      refine s_iload_n (i := 2) dX6_firstOnWay_28 rfl rfl ?_
      refine s_iload dX6_firstOnWay_29 rfl ?_
      refine s_aload_n (i := 0) dX6_firstOnWay_31 rfl rfl ?_
      refine s_getR hX h0 flX6_9 rfl dX6_firstOnWay_32 (fun (g3 : o_is X (o_rf X a0 0) (.inr (0, 6))) => ?_)
      refine s_iload_n (i := 2) dX6_firstOnWay_35 rfl rfl ?_
      have hc := o_ck_c h
      have h := o_ck_k h
      refine s_ialdK g3 hc rfl dX6_firstOnWay_36 ?_
      refine s_callVi (C := mX6_nextOnWay) (As := [.ref (o_ad X a1), .int x2, .int x4, .int (μ0.1 (o_rf X a0 0) x2.toNatClampNeg)]) (rest := []) (L0 := [some (.ref (o_ad X a0)), some (.ref (o_ad X a1)), some (.int x2), some (.int x4), some (.int (μ0.1 (o_rf X a0 0) x2.toNatClampNeg)), none]) hX h0 clX6_34 dX6_firstOnWay_37 rfl rfl (Nat.le_of_ble_eq_true rfl) (Nat.le_of_ble_eq_true rfl) (dnX6_nextOnWay hX h0 h1 (o_bdp h)) (fun r1 μ1 h => ?_)
      exact s_ireturn rfl dX6_firstOnWay_40 ⟨_, rfl, o_ret h⟩
    · have h := o_if_t c1 h
      refine s_iload_n (i := 3) dX6_firstOnWay_22 rfl rfl ?_
      refine s_goto (tgt := 40) dX6_firstOnWay_23 rfl ?_
      exact s_ireturn rfl dX6_firstOnWay_40 ⟨_, rfl, o_ret h⟩
  · have h := o_if_t c1 h
    refine s_iconst dX6_firstOnWay_10 kI_m1 ?_
    exact s_ireturn rfl dX6_firstOnWay_11 ⟨_, rfl, o_ret h⟩
theorem dX6_coupleBehind_0 : decode cX6_coupleBehind 0 = .ok (.aload_n 1, 1) := by decide +kernel
theorem dX6_coupleBehind_1 : decode cX6_coupleBehind 1 = .ok (.getfield 57, 3) := by decide +kernel
theorem dX6_coupleBehind_4 : decode cX6_coupleBehind 4 = .ok (.iload_n 2, 1) := by decide +kernel
theorem dX6_coupleBehind_5 : decode cX6_coupleBehind 5 = .ok (.iaload, 1) := by decide +kernel
theorem dX6_coupleBehind_6 : decode cX6_coupleBehind 6 = .ok (.istore_n 3, 1) := by decide +kernel
theorem dX6_coupleBehind_7 : decode cX6_coupleBehind 7 = .ok (.iload_n 3, 1) := by decide +kernel
theorem dX6_coupleBehind_8 : decode cX6_coupleBehind 8 = .ok (.iconst (-1), 1) := by decide +kernel
theorem dX6_coupleBehind_9 : decode cX6_coupleBehind 9 = .ok (.if_icmp .ne 5, 3) := by decide +kernel
theorem dX6_coupleBehind_12 : decode cX6_coupleBehind 12 = .ok (.iconst (-1), 1) := by decide +kernel
theorem dX6_coupleBehind_13 : decode cX6_coupleBehind 13 = .ok (.ireturn, 1) := by decide +kernel
theorem dX6_coupleBehind_14 : decode cX6_coupleBehind 14 = .ok (.aload_n 0, 1) := by decide +kernel
theorem dX6_coupleBehind_15 : decode cX6_coupleBehind 15 = .ok (.dup, 1) := by decide +kernel
theorem dX6_coupleBehind_16 : decode cX6_coupleBehind 16 = .ok (.getfield 44, 3) := by decide +kernel
theorem dX6_coupleBehind_19 : decode cX6_coupleBehind 19 = .ok (.iconst 1, 1) := by decide +kernel
theorem dX6_coupleBehind_20 : decode cX6_coupleBehind 20 = .ok (.iadd, 1) := by decide +kernel
theorem dX6_coupleBehind_21 : decode cX6_coupleBehind 21 = .ok (.putfield 44, 3) := by decide +kernel
theorem dX6_coupleBehind_24 : decode cX6_coupleBehind 24 = .ok (.aload_n 1, 1) := by decide +kernel
theorem dX6_coupleBehind_25 : decode cX6_coupleBehind 25 = .ok (.iload_n 2, 1) := by decide +kernel
theorem dX6_coupleBehind_26 : decode cX6_coupleBehind 26 = .ok (.bipush 6, 2) := by decide +kernel
theorem dX6_coupleBehind_28 : decode cX6_coupleBehind 28 = .ok (.idiv, 1) := by decide +kernel
theorem dX6_coupleBehind_29 : decode cX6_coupleBehind 29 = .ok (.iload_n 3, 1) := by decide +kernel
theorem dX6_coupleBehind_30 : decode cX6_coupleBehind 30 = .ok (.aload_n 1, 1) := by decide +kernel
theorem dX6_coupleBehind_31 : decode cX6_coupleBehind 31 = .ok (.getfield 60, 3) := by decide +kernel
theorem dX6_coupleBehind_34 : decode cX6_coupleBehind 34 = .ok (.iload_n 2, 1) := by decide +kernel
theorem dX6_coupleBehind_35 : decode cX6_coupleBehind 35 = .ok (.iaload, 1) := by decide +kernel
theorem dX6_coupleBehind_36 : decode cX6_coupleBehind 36 = .ok (.invokestatic 30, 3) := by decide +kernel
theorem dX6_coupleBehind_39 : decode cX6_coupleBehind 39 = .ok (.istore 4, 2) := by decide +kernel
theorem dX6_coupleBehind_41 : decode cX6_coupleBehind 41 = .ok (.iload 4, 2) := by decide +kernel
theorem dX6_coupleBehind_43 : decode cX6_coupleBehind 43 = .ok (.iconst (-1), 1) := by decide +kernel
theorem dX6_coupleBehind_44 : decode cX6_coupleBehind 44 = .ok (.if_icmp .ne 7, 3) := by decide +kernel
theorem dX6_coupleBehind_47 : decode cX6_coupleBehind 47 = .ok (.iconst (-1), 1) := by decide +kernel
theorem dX6_coupleBehind_48 : decode cX6_coupleBehind 48 = .ok (.goto 10, 3) := by decide +kernel
theorem dX6_coupleBehind_51 : decode cX6_coupleBehind 51 = .ok (.iload_n 3, 1) := by decide +kernel
theorem dX6_coupleBehind_52 : decode cX6_coupleBehind 52 = .ok (.bipush 6, 2) := by decide +kernel
theorem dX6_coupleBehind_54 : decode cX6_coupleBehind 54 = .ok (.imul, 1) := by decide +kernel
theorem dX6_coupleBehind_55 : decode cX6_coupleBehind 55 = .ok (.iload 4, 2) := by decide +kernel
theorem dX6_coupleBehind_57 : decode cX6_coupleBehind 57 = .ok (.iadd, 1) := by decide +kernel
theorem dX6_coupleBehind_58 : decode cX6_coupleBehind 58 = .ok (.ireturn, 1) := by decide +kernel
noncomputable def fX6_coupleBehind (rf : Nat → Nat → Nat) (a0 : Nat) (a1 : Nat) (x2 : Int32) (μ0 : o_Mem) : Option (Int32 × o_Mem) :=
  o_ck (0 ≤ (x2).toInt ∧ (x2).toInt < 36) <|
  if (μ0.1 (rf a1 13) x2.toNatClampNeg) = (-1) then (
    some ((-1), μ0))
  else (
    o_seq (o_wI μ0 a0 1 ((μ0.1 a0 1) + 1)) fun μ1 =>
    o_ck (0 ≤ (x2).toInt ∧ (x2).toInt < 36) <|
    o_bd (fX6_struckBetween rf a1 (x2 / 6) (μ0.1 (rf a1 13) x2.toNatClampNeg) (μ1.1 (rf a1 14) x2.toNatClampNeg) μ1) fun r1 μ2 =>
    if r1 = (-1) then (
      some ((-1), μ2))
    else (
      some ((((μ0.1 (rf a1 13) x2.toNatClampNeg) * 6) + r1), μ2)))
set_option maxRecDepth 20000 in
theorem dnX6_coupleBehind {X : o_Cx} (hX : o_ok X) {d : Nat} {a0 : Nat} {a1 : Nat} {x2 : Int32} {μ0 : o_Mem} {q : Int32 → o_Mem → Prop} (h0 : o_is X a0 (.inl 6)) (h1 : o_is X a1 (.inl 8)) (h : o_Post (fX6_coupleBehind (o_rf X) a0 a1 x2 μ0) q) : o_Ev X (d + 4) mX6_coupleBehind 0 [some (.ref (o_ad X a0)), some (.ref (o_ad X a1)), some (.int x2), none, none] [] μ0 (o_QI q) := by
  unfold fX6_coupleBehind at h
  refine s_aload_n (i := 1) dX6_coupleBehind_0 rfl rfl ?_
  refine s_getR hX h1 flX6_57 rfl dX6_coupleBehind_1 (fun (g1 : o_is X (o_rf X a1 13) (.inr (0, 36))) => ?_)
  refine s_iload_n (i := 2) dX6_coupleBehind_4 rfl rfl ?_
  have hc := o_ck_c h
  have h := o_ck_k h
  refine s_ialdK g1 hc rfl dX6_coupleBehind_5 ?_
  refine s_istore_n (i := 3) dX6_coupleBehind_6 rfl (Nat.le_of_ble_eq_true rfl) rfl ?_
  refine s_iload_n (i := 3) dX6_coupleBehind_7 rfl rfl ?_
  refine s_iconst dX6_coupleBehind_8 kI_m1 ?_
  refine s_icmp_ne (tgt := 14) dX6_coupleBehind_9 rfl (fun c1 => ?_) (fun c1 => ?_)
  · have h := o_if_f c1 h
    refine s_aload_n (i := 0) dX6_coupleBehind_14 rfl rfl ?_
    refine s_dup dX6_coupleBehind_15 rfl ?_
    refine s_getI h0 flX6_44 rfl dX6_coupleBehind_16 ?_
    refine s_iconst dX6_coupleBehind_19 kI_1 ?_
    refine s_iadd dX6_coupleBehind_20 ?_
    refine s_putI hX h0 fwX6_44 rfl dX6_coupleBehind_21 (o_gen h (fun μ1 h => ?_))
    refine s_aload_n (i := 1) dX6_coupleBehind_24 rfl rfl ?_
    refine s_iload_n (i := 2) dX6_coupleBehind_25 rfl rfl ?_
    refine s_bipush dX6_coupleBehind_26 kB_6 ?_
    refine s_idiv dX6_coupleBehind_28 (by decide) ?_
    refine s_iload_n (i := 3) dX6_coupleBehind_29 rfl rfl ?_
    refine s_aload_n (i := 1) dX6_coupleBehind_30 rfl rfl ?_
    refine s_getR hX h1 flX6_60 rfl dX6_coupleBehind_31 (fun (g2 : o_is X (o_rf X a1 14) (.inr (0, 36))) => ?_)
    refine s_iload_n (i := 2) dX6_coupleBehind_34 rfl rfl ?_
    have hc := o_ck_c h
    have h := o_ck_k h
    refine s_ialdK g2 hc rfl dX6_coupleBehind_35 ?_
    refine s_callSi (C := mX6_struckBetween) (As := [.ref (o_ad X a1), .int (x2 / 6), .int (μ0.1 (o_rf X a1 13) x2.toNatClampNeg), .int (μ1.1 (o_rf X a1 14) x2.toNatClampNeg)]) (rest := []) (L0 := [some (.ref (o_ad X a1)), some (.int (x2 / 6)), some (.int (μ0.1 (o_rf X a1 13) x2.toNatClampNeg)), some (.int (μ1.1 (o_rf X a1 14) x2.toNatClampNeg))]) clX6_30 dX6_coupleBehind_36 rfl rfl (Nat.le_of_ble_eq_true rfl) (Nat.le_of_ble_eq_true rfl) (dnX6_struckBetween hX h1 (o_bdp h)) (fun r1 μ2 h => ?_)
    refine s_istore dX6_coupleBehind_39 (Nat.le_of_ble_eq_true rfl) rfl ?_
    refine s_iload dX6_coupleBehind_41 rfl ?_
    refine s_iconst dX6_coupleBehind_43 kI_m1 ?_
    refine s_icmp_ne (tgt := 51) dX6_coupleBehind_44 rfl (fun c1 => ?_) (fun c1 => ?_)
    · have h := o_if_f c1 h
      refine s_iload_n (i := 3) dX6_coupleBehind_51 rfl rfl ?_
      refine s_bipush dX6_coupleBehind_52 kB_6 ?_
      refine s_imul dX6_coupleBehind_54 ?_
      refine s_iload dX6_coupleBehind_55 rfl ?_
      refine s_iadd dX6_coupleBehind_57 ?_
      exact s_ireturn rfl dX6_coupleBehind_58 ⟨_, rfl, o_ret h⟩
    · have h := o_if_t c1 h
      refine s_iconst dX6_coupleBehind_47 kI_m1 ?_
      refine s_goto (tgt := 58) dX6_coupleBehind_48 rfl ?_
      exact s_ireturn rfl dX6_coupleBehind_58 ⟨_, rfl, o_ret h⟩
  · have h := o_if_t c1 h
    refine s_iconst dX6_coupleBehind_12 kI_m1 ?_
    exact s_ireturn rfl dX6_coupleBehind_13 ⟨_, rfl, o_ret h⟩
theorem dX6_follow_0 : decode cX6_follow 0 = .ok (.aload_n 0, 1) := by decide +kernel
theorem dX6_follow_1 : decode cX6_follow 1 = .ok (.getfield 15, 3) := by decide +kernel
theorem dX6_follow_4 : decode cX6_follow 4 = .ok (.iconst (-1), 1) := by decide +kernel
theorem dX6_follow_5 : decode cX6_follow 5 = .ok (.invokestatic 18, 3) := by decide +kernel
theorem dX6_follow_8 : decode cX6_follow 8 = .ok (.aload_n 0, 1) := by decide +kernel
theorem dX6_follow_9 : decode cX6_follow 9 = .ok (.iconst 0, 1) := by decide +kernel
theorem dX6_follow_10 : decode cX6_follow 10 = .ok (.putfield 44, 3) := by decide +kernel
theorem dX6_follow_13 : decode cX6_follow 13 = .ok (.aload_n 0, 1) := by decide +kernel
theorem dX6_follow_14 : decode cX6_follow 14 = .ok (.iconst 0, 1) := by decide +kernel
theorem dX6_follow_15 : decode cX6_follow 15 = .ok (.putfield 47, 3) := by decide +kernel
theorem dX6_follow_18 : decode cX6_follow 18 = .ok (.aload_n 0, 1) := by decide +kernel
theorem dX6_follow_19 : decode cX6_follow 19 = .ok (.iconst (-1), 1) := by decide +kernel
theorem dX6_follow_20 : decode cX6_follow 20 = .ok (.putfield 50, 3) := by decide +kernel
theorem dX6_follow_23 : decode cX6_follow 23 = .ok (.iload_n 2, 1) := by decide +kernel
theorem dX6_follow_24 : decode cX6_follow 24 = .ok (.bipush 6, 2) := by decide +kernel
theorem dX6_follow_26 : decode cX6_follow 26 = .ok (.imul, 1) := by decide +kernel
theorem dX6_follow_27 : decode cX6_follow 27 = .ok (.iload_n 3, 1) := by decide +kernel
theorem dX6_follow_28 : decode cX6_follow 28 = .ok (.iadd, 1) := by decide +kernel
theorem dX6_follow_29 : decode cX6_follow 29 = .ok (.istore 4, 2) := by decide +kernel
theorem dX6_follow_31 : decode cX6_follow 31 = .ok (.iconst 0, 1) := by decide +kernel
theorem dX6_follow_32 : decode cX6_follow 32 = .ok (.istore 5, 2) := by decide +kernel
theorem dX6_follow_34 : decode cX6_follow 34 = .ok (.iload 5, 2) := by decide +kernel
theorem dX6_follow_36 : decode cX6_follow 36 = .ok (.bipush 36, 2) := by decide +kernel
theorem dX6_follow_38 : decode cX6_follow 38 = .ok (.if_icmp .gt 76, 3) := by decide +kernel
theorem dX6_follow_41 : decode cX6_follow 41 = .ok (.iload 4, 2) := by decide +kernel
theorem dX6_follow_43 : decode cX6_follow 43 = .ok (.iconst (-1), 1) := by decide +kernel
theorem dX6_follow_44 : decode cX6_follow 44 = .ok (.if_icmp .eq 70, 3) := by decide +kernel
theorem dX6_follow_47 : decode cX6_follow 47 = .ok (.aload_n 0, 1) := by decide +kernel
theorem dX6_follow_48 : decode cX6_follow 48 = .ok (.getfield 47, 3) := by decide +kernel
theorem dX6_follow_51 : decode cX6_follow 51 = .ok (.ifCond .ne 63, 3) := by decide +kernel
theorem dX6_follow_54 : decode cX6_follow 54 = .ok (.aload_n 0, 1) := by decide +kernel
theorem dX6_follow_55 : decode cX6_follow 55 = .ok (.getfield 15, 3) := by decide +kernel
theorem dX6_follow_58 : decode cX6_follow 58 = .ok (.iload 4, 2) := by decide +kernel
theorem dX6_follow_60 : decode cX6_follow 60 = .ok (.iaload, 1) := by decide +kernel
theorem dX6_follow_61 : decode cX6_follow 61 = .ok (.iconst (-1), 1) := by decide +kernel
theorem dX6_follow_62 : decode cX6_follow 62 = .ok (.if_icmp .eq 28, 3) := by decide +kernel
theorem dX6_follow_65 : decode cX6_follow 65 = .ok (.aload_n 0, 1) := by decide +kernel
theorem dX6_follow_66 : decode cX6_follow 66 = .ok (.aload_n 0, 1) := by decide +kernel
theorem dX6_follow_67 : decode cX6_follow 67 = .ok (.getfield 15, 3) := by decide +kernel
theorem dX6_follow_70 : decode cX6_follow 70 = .ok (.iload 4, 2) := by decide +kernel
theorem dX6_follow_72 : decode cX6_follow 72 = .ok (.iaload, 1) := by decide +kernel
theorem dX6_follow_73 : decode cX6_follow 73 = .ok (.putfield 50, 3) := by decide +kernel
theorem dX6_follow_76 : decode cX6_follow 76 = .ok (.aload_n 0, 1) := by decide +kernel
theorem dX6_follow_77 : decode cX6_follow 77 = .ok (.iload 5, 2) := by decide +kernel
theorem dX6_follow_79 : decode cX6_follow 79 = .ok (.aload_n 0, 1) := by decide +kernel
theorem dX6_follow_80 : decode cX6_follow 80 = .ok (.getfield 50, 3) := by decide +kernel
theorem dX6_follow_83 : decode cX6_follow 83 = .ok (.isub, 1) := by decide +kernel
theorem dX6_follow_84 : decode cX6_follow 84 = .ok (.putfield 47, 3) := by decide +kernel
theorem dX6_follow_87 : decode cX6_follow 87 = .ok (.goto 21, 3) := by decide +kernel
theorem dX6_follow_90 : decode cX6_follow 90 = .ok (.aload_n 0, 1) := by decide +kernel
theorem dX6_follow_91 : decode cX6_follow 91 = .ok (.getfield 15, 3) := by decide +kernel
theorem dX6_follow_94 : decode cX6_follow 94 = .ok (.iload 4, 2) := by decide +kernel
theorem dX6_follow_96 : decode cX6_follow 96 = .ok (.iload 5, 2) := by decide +kernel
theorem dX6_follow_98 : decode cX6_follow 98 = .ok (.iastore, 1) := by decide +kernel
theorem dX6_follow_99 : decode cX6_follow 99 = .ok (.aload_n 0, 1) := by decide +kernel
theorem dX6_follow_100 : decode cX6_follow 100 = .ok (.aload_n 1, 1) := by decide +kernel
theorem dX6_follow_101 : decode cX6_follow 101 = .ok (.iload 4, 2) := by decide +kernel
theorem dX6_follow_103 : decode cX6_follow 103 = .ok (.invokevirtual 53, 3) := by decide +kernel
theorem dX6_follow_106 : decode cX6_follow 106 = .ok (.istore 4, 2) := by decide +kernel
theorem dX6_follow_108 : decode cX6_follow 108 = .ok (.iinc 5 1, 3) := by decide +kernel
theorem dX6_follow_111 : decode cX6_follow 111 = .ok (.goto (-77), 3) := by decide +kernel
theorem dX6_follow_114 : decode cX6_follow 114 = .ok (.return_, 1) := by decide +kernel
noncomputable def fX6_follow_s34 (rf : Nat → Nat → Nat) (a0 : Nat) (a1 : Nat) (τ34 : Int32 × Int32) (μ0 : o_Mem) : Option ((Nat × (Int32 × Int32)) × o_Mem) :=
  if 36 < τ34.2 then (
    some ((114, (0, 0)), μ0))
  else (
    if τ34.1 = (-1) then (
      some ((114, (0, 0)), μ0))
    else (
      if (μ0.1 a0 2) = 0 then (
        o_ck (0 ≤ (τ34.1).toInt ∧ (τ34.1).toInt < 36) <|
        if (μ0.1 (rf a0 4) (τ34.1).toNatClampNeg) = (-1) then (
          o_ck (0 ≤ (τ34.1).toInt ∧ (τ34.1).toInt < 36) <|
          o_seq (o_wI μ0 (rf a0 4) ((τ34.1).toNatClampNeg) τ34.2) fun μ1 =>
          o_bd (fX6_coupleBehind rf a0 a1 τ34.1 μ1) fun r1 μ2 =>
          some ((34, (r1, (τ34.2 + 1))), μ2))
        else (
          o_ck (0 ≤ (τ34.1).toInt ∧ (τ34.1).toInt < 36) <|
          o_seq (o_wI μ0 a0 3 (μ0.1 (rf a0 4) (τ34.1).toNatClampNeg)) fun μ3 =>
          o_seq (o_wI μ3 a0 2 (τ34.2 - (μ3.1 a0 3))) fun μ4 =>
          some ((34, (τ34.1, (τ34.2 + 1))), μ4)))
      else (
        some ((114, (0, 0)), μ0))))
noncomputable def fX6_follow (rf : Nat → Nat → Nat) (a0 : Nat) (a1 : Nat) (x2 : Int32) (x3 : Int32) (μ0 : o_Mem) : Option (Unit × o_Mem) :=
  o_seq (o_sI μ0 (rf a0 4) (o_fill (μ0.1 (rf a0 4)) 36 (-1))) fun μ1 =>
  o_seq (o_wI μ1 a0 1 0) fun μ2 =>
  o_seq (o_wI μ2 a0 2 0) fun μ3 =>
  o_seq (o_wI μ3 a0 3 (-1)) fun μ4 =>
  o_bd (o_lp 34 (fX6_follow_s34 rf a0 a1) o_fuel (((x2 * 6) + x3), 0) μ4) fun ex5 μ5 =>
  if ex5.1 = 114 then (
    some ((), μ5))
  else
    none
set_option maxRecDepth 20000 in
theorem dnX6_follow_s34 {X : o_Cx} (hX : o_ok X) {d : Nat} {a0 : Nat} {a1 : Nat} {τ34 : Int32 × Int32} {μ0 : o_Mem} {K : (Nat × (Int32 × Int32)) → o_Mem → Prop} {Q : Option Value → o_Mem → Prop} (h0 : o_is X a0 (.inl 6)) (h1 : o_is X a1 (.inl 8)) (h : o_Post (fX6_follow_s34 (o_rf X) a0 a1 τ34 μ0) K) (kh : ∀ (τ34 : Int32 × Int32) (μ : o_Mem), K (34, τ34) μ → o_Ev X (d + 5) mX6_follow 34 [some (.ref (o_ad X a0)), some (.ref (o_ad X a1)), none, none, some (.int τ34.1), some (.int τ34.2)] [] μ Q) (k114 : ∀ (τ34 : Int32 × Int32) (μ : o_Mem), K (114, τ34) μ → o_Ev X (d + 5) mX6_follow 114 [none, none, none, none, none, none] [] μ Q) : o_Ev X (d + 5) mX6_follow 34 [some (.ref (o_ad X a0)), some (.ref (o_ad X a1)), none, none, some (.int τ34.1), some (.int τ34.2)] [] μ0 Q := by
  unfold fX6_follow_s34 at h
  refine s_iload dX6_follow_34 rfl ?_
  refine s_bipush dX6_follow_36 kB_36 ?_
  refine s_icmp_gt (tgt := 114) dX6_follow_38 rfl (fun c1 => ?_) (fun c1 => ?_)
  · have h := o_if_t c1 h
    refine s_mask [false, false, false, false, false, false] (L' := [none, none, none, none, none, none]) rfl ?_
    exact k114 (0, 0) _ (o_ret h)
  · have h := o_if_f c1 h
    refine s_iload dX6_follow_41 rfl ?_
    refine s_iconst dX6_follow_43 kI_m1 ?_
    refine s_icmp_eq (tgt := 114) dX6_follow_44 rfl (fun c1 => ?_) (fun c1 => ?_)
    · have h := o_if_t c1 h
      refine s_mask [false, false, false, false, false, false] (L' := [none, none, none, none, none, none]) rfl ?_
      exact k114 (0, 0) _ (o_ret h)
    · have h := o_if_f c1 h
      refine s_aload_n (i := 0) dX6_follow_47 rfl rfl ?_
      refine s_getI h0 flX6_47 rfl dX6_follow_48 ?_
      refine s_if_ne (tgt := 114) dX6_follow_51 rfl (fun c1 => ?_) (fun c1 => ?_)
      · have h := o_if_f c1 h
        refine s_mask [false, false, false, false, false, false] (L' := [none, none, none, none, none, none]) rfl ?_
        exact k114 (0, 0) _ (o_ret h)
      · have h := o_if_t c1 h
        refine s_aload_n (i := 0) dX6_follow_54 rfl rfl ?_
        refine s_getR hX h0 flX6_15 rfl dX6_follow_55 (fun (g1 : o_is X (o_rf X a0 4) (.inr (0, 36))) => ?_)
        refine s_iload dX6_follow_58 rfl ?_
        have hc := o_ck_c h
        have h := o_ck_k h
        refine s_ialdK g1 hc rfl dX6_follow_60 ?_
        refine s_iconst dX6_follow_61 kI_m1 ?_
        refine s_icmp_eq (tgt := 90) dX6_follow_62 rfl (fun c1 => ?_) (fun c1 => ?_)
        · have h := o_if_t c1 h
          refine s_aload_n (i := 0) dX6_follow_90 rfl rfl ?_
          refine s_getR hX h0 flX6_15 rfl dX6_follow_91 (fun (g2 : o_is X (o_rf X a0 4) (.inr (0, 36))) => ?_)
          refine s_iload dX6_follow_94 rfl ?_
          refine s_iload dX6_follow_96 rfl ?_
          have hc := o_ck_c h
          have h := o_ck_k h
          refine s_iastK hX g2 hc rfl dX6_follow_98 (o_gen h (fun μ1 h => ?_))
          refine s_aload_n (i := 0) dX6_follow_99 rfl rfl ?_
          refine s_aload_n (i := 1) dX6_follow_100 rfl rfl ?_
          refine s_iload dX6_follow_101 rfl ?_
          refine s_callVi (C := mX6_coupleBehind) (As := [.ref (o_ad X a1), .int τ34.1]) (rest := []) (L0 := [some (.ref (o_ad X a0)), some (.ref (o_ad X a1)), some (.int τ34.1), none, none]) hX h0 clX6_53 dX6_follow_103 rfl rfl (Nat.le_of_ble_eq_true rfl) (Nat.le_of_ble_eq_true rfl) (dnX6_coupleBehind hX h0 h1 (o_bdp h)) (fun r1 μ2 h => ?_)
          refine s_istore dX6_follow_106 (Nat.le_of_ble_eq_true rfl) rfl ?_
          refine s_iinc (v := (τ34.2 + 1)) dX6_follow_108 rfl rfl (Nat.le_of_ble_eq_true rfl) rfl ?_
          refine s_goto (tgt := 34) dX6_follow_111 rfl ?_
          refine s_mask [true, true, false, false, true, true] (L' := [some (.ref (o_ad X a0)), some (.ref (o_ad X a1)), none, none, some (.int r1), some (.int (τ34.2 + 1))]) rfl ?_
          exact kh (r1, (τ34.2 + 1)) _ (o_ret h)
        · have h := o_if_f c1 h
          refine s_aload_n (i := 0) dX6_follow_65 rfl rfl ?_
          refine s_aload_n (i := 0) dX6_follow_66 rfl rfl ?_
          refine s_getR hX h0 flX6_15 rfl dX6_follow_67 (fun (g3 : o_is X (o_rf X a0 4) (.inr (0, 36))) => ?_)
          refine s_iload dX6_follow_70 rfl ?_
          have hc := o_ck_c h
          have h := o_ck_k h
          refine s_ialdK g3 hc rfl dX6_follow_72 ?_
          refine s_putI hX h0 fwX6_50 rfl dX6_follow_73 (o_gen h (fun μ3 h => ?_))
          refine s_aload_n (i := 0) dX6_follow_76 rfl rfl ?_
          refine s_iload dX6_follow_77 rfl ?_
          refine s_aload_n (i := 0) dX6_follow_79 rfl rfl ?_
          refine s_getI h0 flX6_50 rfl dX6_follow_80 ?_
          refine s_isub dX6_follow_83 ?_
          refine s_putI hX h0 fwX6_47 rfl dX6_follow_84 (o_gen h (fun μ4 h => ?_))
          refine s_goto (tgt := 108) dX6_follow_87 rfl ?_
          refine s_iinc (v := (τ34.2 + 1)) dX6_follow_108 rfl rfl (Nat.le_of_ble_eq_true rfl) rfl ?_
          refine s_goto (tgt := 34) dX6_follow_111 rfl ?_
          refine s_mask [true, true, false, false, true, true] (L' := [some (.ref (o_ad X a0)), some (.ref (o_ad X a1)), none, none, some (.int τ34.1), some (.int (τ34.2 + 1))]) rfl ?_
          exact kh (τ34.1, (τ34.2 + 1)) _ (o_ret h)
set_option maxRecDepth 20000 in
theorem dnX6_follow {X : o_Cx} (hX : o_ok X) {d : Nat} {a0 : Nat} {a1 : Nat} {x2 : Int32} {x3 : Int32} {μ0 : o_Mem} {q : Unit → o_Mem → Prop} (h0 : o_is X a0 (.inl 6)) (h1 : o_is X a1 (.inl 8)) (h : o_Post (fX6_follow (o_rf X) a0 a1 x2 x3 μ0) q) : o_Ev X (d + 5) mX6_follow 0 [some (.ref (o_ad X a0)), some (.ref (o_ad X a1)), some (.int x2), some (.int x3), none, none] [] μ0 (o_QU q) := by
  unfold fX6_follow at h
  refine s_aload_n (i := 0) dX6_follow_0 rfl rfl ?_
  refine s_getR hX h0 flX6_15 rfl dX6_follow_1 (fun (g1 : o_is X (o_rf X a0 4) (.inr (0, 36))) => ?_)
  refine s_iconst dX6_follow_4 kI_m1 ?_
  refine s_fillI (rest := []) hX g1 mlX6_18 (by decide) (Nat.le_of_ble_eq_true rfl) dX6_follow_5 (o_gen h (fun μ1 h => ?_))
  refine s_aload_n (i := 0) dX6_follow_8 rfl rfl ?_
  refine s_iconst dX6_follow_9 kI_0 ?_
  refine s_putI hX h0 fwX6_44 rfl dX6_follow_10 (o_gen h (fun μ2 h => ?_))
  refine s_aload_n (i := 0) dX6_follow_13 rfl rfl ?_
  refine s_iconst dX6_follow_14 kI_0 ?_
  refine s_putI hX h0 fwX6_47 rfl dX6_follow_15 (o_gen h (fun μ3 h => ?_))
  refine s_aload_n (i := 0) dX6_follow_18 rfl rfl ?_
  refine s_iconst dX6_follow_19 kI_m1 ?_
  refine s_putI hX h0 fwX6_50 rfl dX6_follow_20 (o_gen h (fun μ4 h => ?_))
  refine s_iload_n (i := 2) dX6_follow_23 rfl rfl ?_
  refine s_bipush dX6_follow_24 kB_6 ?_
  refine s_imul dX6_follow_26 ?_
  refine s_iload_n (i := 3) dX6_follow_27 rfl rfl ?_
  refine s_iadd dX6_follow_28 ?_
  refine s_istore dX6_follow_29 (Nat.le_of_ble_eq_true rfl) rfl ?_
  refine s_iconst dX6_follow_31 kI_0 ?_
  refine s_istore dX6_follow_32 (Nat.le_of_ble_eq_true rfl) rfl ?_
  refine s_mask [true, true, false, false, true, true] (L' := [some (.ref (o_ad X a0)), some (.ref (o_ad X a1)), none, none, some (.int ((x2 * 6) + x3)), some (.int 0)]) rfl ?_
  refine o_lp_ev (fun τ34 => [some (.ref (o_ad X a0)), some (.ref (o_ad X a1)), none, none, some (.int τ34.1), some (.int τ34.2)]) (fun τ34 μ _K h kv ke34 => dnX6_follow_s34 hX h0 h1 h kv (fun τ34 μ5 h => ?_)) o_fuel (((x2 * 6) + x3), 0) μ4 (o_bdp h)
  · have h := o_if_t rfl (ke34 (114, τ34) μ5 (o_ne rfl) h)
    exact s_return rfl dX6_follow_114 ⟨rfl, o_ret h⟩
theorem dX7_make_0 : decode cX7_make 0 = .ok (.aload_n 0, 1) := by decide +kernel
theorem dX7_make_1 : decode cX7_make 1 = .ok (.iconst 1, 1) := by decide +kernel
theorem dX7_make_2 : decode cX7_make 2 = .ok (.putfield 15, 3) := by decide +kernel
theorem dX7_make_5 : decode cX7_make 5 = .ok (.aload_n 0, 1) := by decide +kernel
theorem dX7_make_6 : decode cX7_make 6 = .ok (.iload_n 1, 1) := by decide +kernel
theorem dX7_make_7 : decode cX7_make 7 = .ok (.putfield 19, 3) := by decide +kernel
theorem dX7_make_10 : decode cX7_make 10 = .ok (.aload_n 0, 1) := by decide +kernel
theorem dX7_make_11 : decode cX7_make 11 = .ok (.iload_n 2, 1) := by decide +kernel
theorem dX7_make_12 : decode cX7_make 12 = .ok (.putfield 23, 3) := by decide +kernel
theorem dX7_make_15 : decode cX7_make 15 = .ok (.aload_n 0, 1) := by decide +kernel
theorem dX7_make_16 : decode cX7_make 16 = .ok (.getfield 9, 3) := by decide +kernel
theorem dX7_make_19 : decode cX7_make 19 = .ok (.lconst 0, 1) := by decide +kernel
theorem dX7_make_20 : decode cX7_make 20 = .ok (.invokestatic 26, 3) := by decide +kernel
theorem dX7_make_23 : decode cX7_make 23 = .ok (.return_, 1) := by decide +kernel
noncomputable def fX7_make (rf : Nat → Nat → Nat) (a0 : Nat) (x1 : Int32) (x2 : Int32) (μ0 : o_Mem) : Option (Unit × o_Mem) :=
  o_seq (o_wI μ0 a0 0 1) fun μ1 =>
  o_seq (o_wI μ1 a0 1 x1) fun μ2 =>
  o_seq (o_wI μ2 a0 2 x2) fun μ3 =>
  o_seq (o_sL μ3 (rf a0 3) (o_fill (μ3.2 (rf a0 3)) 60 (0 : Int64))) fun μ4 =>
  some ((), μ4)
set_option maxRecDepth 20000 in
theorem dnX7_make {X : o_Cx} (hX : o_ok X) {d : Nat} {a0 : Nat} {x1 : Int32} {x2 : Int32} {μ0 : o_Mem} {q : Unit → o_Mem → Prop} (h0 : o_is X a0 (.inl 7)) (h : o_Post (fX7_make (o_rf X) a0 x1 x2 μ0) q) : o_Ev X (d + 1) mX7_make 0 [some (.ref (o_ad X a0)), some (.int x1), some (.int x2)] [] μ0 (o_QU q) := by
  unfold fX7_make at h
  refine s_aload_n (i := 0) dX7_make_0 rfl rfl ?_
  refine s_iconst dX7_make_1 kI_1 ?_
  refine s_putZ hX h0 fwX7_15 rfl (Or.inr rfl) dX7_make_2 (o_gen h (fun μ1 h => ?_))
  refine s_aload_n (i := 0) dX7_make_5 rfl rfl ?_
  refine s_iload_n (i := 1) dX7_make_6 rfl rfl ?_
  refine s_putI hX h0 fwX7_19 rfl dX7_make_7 (o_gen h (fun μ2 h => ?_))
  refine s_aload_n (i := 0) dX7_make_10 rfl rfl ?_
  refine s_iload_n (i := 2) dX7_make_11 rfl rfl ?_
  refine s_putI hX h0 fwX7_23 rfl dX7_make_12 (o_gen h (fun μ3 h => ?_))
  refine s_aload_n (i := 0) dX7_make_15 rfl rfl ?_
  refine s_getR hX h0 flX7_9 rfl dX7_make_16 (fun (g1 : o_is X (o_rf X a0 3) (.inr (2, 60))) => ?_)
  refine s_lconst (v := 0) dX7_make_19 rfl ?_
  refine s_fillL (rest := []) hX g1 mlX7_26 (by decide) (Nat.le_of_ble_eq_true rfl) dX7_make_20 (o_gen h (fun μ4 h => ?_))
  exact s_return rfl dX7_make_23 ⟨rfl, o_ret h⟩
theorem dX7_cut_0 : decode cX7_cut 0 = .ok (.aload_n 0, 1) := by decide +kernel
theorem dX7_cut_1 : decode cX7_cut 1 = .ok (.getfield 19, 3) := by decide +kernel
theorem dX7_cut_4 : decode cX7_cut 4 = .ok (.tableswitch 42 0 2 #[28, 33, 38], 28) := by decide +kernel
theorem dX7_cut_32 : decode cX7_cut 32 = .ok (.lload_n 1, 1) := by decide +kernel
theorem dX7_cut_33 : decode cX7_cut 33 = .ok (.l2i, 1) := by decide +kernel
theorem dX7_cut_34 : decode cX7_cut 34 = .ok (.i2b, 1) := by decide +kernel
theorem dX7_cut_35 : decode cX7_cut 35 = .ok (.i2l, 1) := by decide +kernel
theorem dX7_cut_36 : decode cX7_cut 36 = .ok (.lreturn, 1) := by decide +kernel
theorem dX7_cut_37 : decode cX7_cut 37 = .ok (.lload_n 1, 1) := by decide +kernel
theorem dX7_cut_38 : decode cX7_cut 38 = .ok (.l2i, 1) := by decide +kernel
theorem dX7_cut_39 : decode cX7_cut 39 = .ok (.i2s, 1) := by decide +kernel
theorem dX7_cut_40 : decode cX7_cut 40 = .ok (.i2l, 1) := by decide +kernel
theorem dX7_cut_41 : decode cX7_cut 41 = .ok (.lreturn, 1) := by decide +kernel
theorem dX7_cut_42 : decode cX7_cut 42 = .ok (.lload_n 1, 1) := by decide +kernel
theorem dX7_cut_43 : decode cX7_cut 43 = .ok (.l2i, 1) := by decide +kernel
theorem dX7_cut_44 : decode cX7_cut 44 = .ok (.i2l, 1) := by decide +kernel
theorem dX7_cut_45 : decode cX7_cut 45 = .ok (.lreturn, 1) := by decide +kernel
theorem dX7_cut_46 : decode cX7_cut 46 = .ok (.lload_n 1, 1) := by decide +kernel
theorem dX7_cut_47 : decode cX7_cut 47 = .ok (.lreturn, 1) := by decide +kernel
noncomputable def fX7_cut (rf : Nat → Nat → Nat) (a0 : Nat) (x1 : Int64) (μ0 : o_Mem) : Option (Int64 × o_Mem) :=
  if (μ0.1 a0 1) = 0 then (
    some (x1.toInt32.toInt8.toInt32.toInt64, μ0))
  else
  if (μ0.1 a0 1) = 1 then (
    some (x1.toInt32.toInt16.toInt32.toInt64, μ0))
  else
  if (μ0.1 a0 1) = 2 then (
    some (x1.toInt32.toInt64, μ0))
  else
    some (x1, μ0)
set_option maxRecDepth 20000 in
theorem dnX7_cut {X : o_Cx} (hX : o_ok X) {d : Nat} {a0 : Nat} {x1 : Int64} {μ0 : o_Mem} {q : Int64 → o_Mem → Prop} (h0 : o_is X a0 (.inl 7)) (h : o_Post (fX7_cut (o_rf X) a0 x1 μ0) q) : o_Ev X (d + 0) mX7_cut 0 [some (.ref (o_ad X a0)), some (.long x1), none] [] μ0 (o_QL q) := by
  unfold fX7_cut at h
  refine s_aload_n (i := 0) dX7_cut_0 rfl rfl ?_
  refine s_getI h0 flX7_19 rfl dX7_cut_1 ?_
  by_cases e0 : (μ0.1 a0 1) = 0
  · have h := o_if_t e0 h
    refine s_table (off := 28) (tgt := 32) dX7_cut_4 rfl (by rw [e0]; decide) rfl ?_
    refine s_lload_n (i := 1) dX7_cut_32 rfl rfl ?_
    refine s_l2i dX7_cut_33 ?_
    refine s_i2b dX7_cut_34 ?_
    refine s_i2l dX7_cut_35 ?_
    exact s_lreturn rfl dX7_cut_36 ⟨_, rfl, o_ret h⟩
  have h := o_if_f e0 h
  by_cases e1 : (μ0.1 a0 1) = 1
  · have h := o_if_t e1 h
    refine s_table (off := 33) (tgt := 37) dX7_cut_4 rfl (by rw [e1]; decide) rfl ?_
    refine s_lload_n (i := 1) dX7_cut_37 rfl rfl ?_
    refine s_l2i dX7_cut_38 ?_
    refine s_i2s dX7_cut_39 ?_
    refine s_i2l dX7_cut_40 ?_
    exact s_lreturn rfl dX7_cut_41 ⟨_, rfl, o_ret h⟩
  have h := o_if_f e1 h
  by_cases e2 : (μ0.1 a0 1) = 2
  · have h := o_if_t e2 h
    refine s_table (off := 38) (tgt := 42) dX7_cut_4 rfl (by rw [e2]; decide) rfl ?_
    refine s_lload_n (i := 1) dX7_cut_42 rfl rfl ?_
    refine s_l2i dX7_cut_43 ?_
    refine s_i2l dX7_cut_44 ?_
    exact s_lreturn rfl dX7_cut_45 ⟨_, rfl, o_ret h⟩
  have h := o_if_f e2 h
  have n0 := lv_neT (a := 0) e0 (by decide)
  have n1 := lv_neT (a := 1) e1 (by decide)
  have n2 := lv_neT (a := 2) e2 (by decide)
  have hz : ((μ0.1 a0 1)).toInt < 0 ∨ 2 < ((μ0.1 a0 1)).toInt := by omega
  refine s_table (off := 42) (tgt := 46) dX7_cut_4 rfl (o_tabD hz) rfl ?_
  refine s_lload_n (i := 1) dX7_cut_46 rfl rfl ?_
  exact s_lreturn rfl dX7_cut_47 ⟨_, rfl, o_ret h⟩
theorem dX7_put_0 : decode cX7_put 0 = .ok (.aload_n 0, 1) := by decide +kernel
theorem dX7_put_1 : decode cX7_put 1 = .ok (.getfield 9, 3) := by decide +kernel
theorem dX7_put_4 : decode cX7_put 4 = .ok (.iload_n 1, 1) := by decide +kernel
theorem dX7_put_5 : decode cX7_put 5 = .ok (.aload_n 0, 1) := by decide +kernel
theorem dX7_put_6 : decode cX7_put 6 = .ok (.lload_n 2, 1) := by decide +kernel
theorem dX7_put_7 : decode cX7_put 7 = .ok (.invokevirtual 32, 3) := by decide +kernel
theorem dX7_put_10 : decode cX7_put 10 = .ok (.lastore, 1) := by decide +kernel
theorem dX7_put_11 : decode cX7_put 11 = .ok (.return_, 1) := by decide +kernel
noncomputable def fX7_put (rf : Nat → Nat → Nat) (a0 : Nat) (x1 : Int32) (x2 : Int64) (μ0 : o_Mem) : Option (Unit × o_Mem) :=
  o_bd (fX7_cut rf a0 x2 μ0) fun r1 μ1 =>
  o_ck (0 ≤ (x1).toInt ∧ (x1).toInt < 60) <|
  o_seq (o_wL μ1 (rf a0 3) x1.toNatClampNeg r1) fun μ2 =>
  some ((), μ2)
set_option maxRecDepth 20000 in
theorem dnX7_put {X : o_Cx} (hX : o_ok X) {d : Nat} {a0 : Nat} {x1 : Int32} {x2 : Int64} {μ0 : o_Mem} {q : Unit → o_Mem → Prop} (h0 : o_is X a0 (.inl 7)) (h : o_Post (fX7_put (o_rf X) a0 x1 x2 μ0) q) : o_Ev X (d + 1) mX7_put 0 [some (.ref (o_ad X a0)), some (.int x1), some (.long x2), none] [] μ0 (o_QU q) := by
  unfold fX7_put at h
  refine s_aload_n (i := 0) dX7_put_0 rfl rfl ?_
  refine s_getR hX h0 flX7_9 rfl dX7_put_1 (fun (g1 : o_is X (o_rf X a0 3) (.inr (2, 60))) => ?_)
  refine s_iload_n (i := 1) dX7_put_4 rfl rfl ?_
  refine s_aload_n (i := 0) dX7_put_5 rfl rfl ?_
  refine s_lload_n (i := 2) dX7_put_6 rfl rfl ?_
  refine s_callVl (C := mX7_cut) (As := [.long x2]) (rest := [.int x1, .ref (o_ad X (o_rf X a0 3))]) (L0 := [some (.ref (o_ad X a0)), some (.long x2), none]) hX h0 clX7_32 dX7_put_7 rfl rfl (Nat.le_of_ble_eq_true rfl) (Nat.le_of_ble_eq_true rfl) (dnX7_cut hX h0 (o_bdp h)) (fun r1 μ1 h => ?_)
  have hc := o_ck_c h
  have h := o_ck_k h
  refine s_lastK hX g1 hc rfl dX7_put_10 (o_gen h (fun μ2 h => ?_))
  exact s_return rfl dX7_put_11 ⟨rfl, o_ret h⟩
theorem dX8_clear_0 : decode cX8_clear 0 = .ok (.aload_n 0, 1) := by decide +kernel
theorem dX8_clear_1 : decode cX8_clear 1 = .ok (.iconst 0, 1) := by decide +kernel
theorem dX8_clear_2 : decode cX8_clear 2 = .ok (.putfield 48, 3) := by decide +kernel
theorem dX8_clear_5 : decode cX8_clear 5 = .ok (.aload_n 0, 1) := by decide +kernel
theorem dX8_clear_6 : decode cX8_clear 6 = .ok (.iconst 0, 1) := by decide +kernel
theorem dX8_clear_7 : decode cX8_clear 7 = .ok (.putfield 51, 3) := by decide +kernel
theorem dX8_clear_10 : decode cX8_clear 10 = .ok (.aload_n 0, 1) := by decide +kernel
theorem dX8_clear_11 : decode cX8_clear 11 = .ok (.iconst 0, 1) := by decide +kernel
theorem dX8_clear_12 : decode cX8_clear 12 = .ok (.putfield 54, 3) := by decide +kernel
theorem dX8_clear_15 : decode cX8_clear 15 = .ok (.aload_n 0, 1) := by decide +kernel
theorem dX8_clear_16 : decode cX8_clear 16 = .ok (.iconst 0, 1) := by decide +kernel
theorem dX8_clear_17 : decode cX8_clear 17 = .ok (.putfield 57, 3) := by decide +kernel
theorem dX8_clear_20 : decode cX8_clear 20 = .ok (.aload_n 0, 1) := by decide +kernel
theorem dX8_clear_21 : decode cX8_clear 21 = .ok (.iconst 4, 1) := by decide +kernel
theorem dX8_clear_22 : decode cX8_clear 22 = .ok (.putfield 9, 3) := by decide +kernel
theorem dX8_clear_25 : decode cX8_clear 25 = .ok (.aload_n 0, 1) := by decide +kernel
theorem dX8_clear_26 : decode cX8_clear 26 = .ok (.iconst 0, 1) := by decide +kernel
theorem dX8_clear_27 : decode cX8_clear 27 = .ok (.putfield 60, 3) := by decide +kernel
theorem dX8_clear_30 : decode cX8_clear 30 = .ok (.aload_n 0, 1) := by decide +kernel
theorem dX8_clear_31 : decode cX8_clear 31 = .ok (.iconst 0, 1) := by decide +kernel
theorem dX8_clear_32 : decode cX8_clear 32 = .ok (.putfield 63, 3) := by decide +kernel
theorem dX8_clear_35 : decode cX8_clear 35 = .ok (.aload_n 0, 1) := by decide +kernel
theorem dX8_clear_36 : decode cX8_clear 36 = .ok (.iconst 0, 1) := by decide +kernel
theorem dX8_clear_37 : decode cX8_clear 37 = .ok (.putfield 67, 3) := by decide +kernel
theorem dX8_clear_40 : decode cX8_clear 40 = .ok (.aload_n 0, 1) := by decide +kernel
theorem dX8_clear_41 : decode cX8_clear 41 = .ok (.iconst 0, 1) := by decide +kernel
theorem dX8_clear_42 : decode cX8_clear 42 = .ok (.putfield 70, 3) := by decide +kernel
theorem dX8_clear_45 : decode cX8_clear 45 = .ok (.aload_n 0, 1) := by decide +kernel
theorem dX8_clear_46 : decode cX8_clear 46 = .ok (.getfield 19, 3) := by decide +kernel
theorem dX8_clear_49 : decode cX8_clear 49 = .ok (.iconst 0, 1) := by decide +kernel
theorem dX8_clear_50 : decode cX8_clear 50 = .ok (.invokestatic 73, 3) := by decide +kernel
theorem dX8_clear_53 : decode cX8_clear 53 = .ok (.aload_n 0, 1) := by decide +kernel
theorem dX8_clear_54 : decode cX8_clear 54 = .ok (.getfield 28, 3) := by decide +kernel
theorem dX8_clear_57 : decode cX8_clear 57 = .ok (.iconst (-1), 1) := by decide +kernel
theorem dX8_clear_58 : decode cX8_clear 58 = .ok (.invokestatic 73, 3) := by decide +kernel
theorem dX8_clear_61 : decode cX8_clear 61 = .ok (.aload_n 0, 1) := by decide +kernel
theorem dX8_clear_62 : decode cX8_clear 62 = .ok (.getfield 31, 3) := by decide +kernel
theorem dX8_clear_65 : decode cX8_clear 65 = .ok (.iconst (-1), 1) := by decide +kernel
theorem dX8_clear_66 : decode cX8_clear 66 = .ok (.invokestatic 73, 3) := by decide +kernel
theorem dX8_clear_69 : decode cX8_clear 69 = .ok (.aload_n 0, 1) := by decide +kernel
theorem dX8_clear_70 : decode cX8_clear 70 = .ok (.getfield 37, 3) := by decide +kernel
theorem dX8_clear_73 : decode cX8_clear 73 = .ok (.iconst 0, 1) := by decide +kernel
theorem dX8_clear_74 : decode cX8_clear 74 = .ok (.putfield 79, 3) := by decide +kernel
theorem dX8_clear_77 : decode cX8_clear 77 = .ok (.aload_n 0, 1) := by decide +kernel
theorem dX8_clear_78 : decode cX8_clear 78 = .ok (.getfield 41, 3) := by decide +kernel
theorem dX8_clear_81 : decode cX8_clear 81 = .ok (.iconst 0, 1) := by decide +kernel
theorem dX8_clear_82 : decode cX8_clear 82 = .ok (.putfield 79, 3) := by decide +kernel
theorem dX8_clear_85 : decode cX8_clear 85 = .ok (.return_, 1) := by decide +kernel
noncomputable def fX8_clear (rf : Nat → Nat → Nat) (a0 : Nat) (μ0 : o_Mem) : Option (Unit × o_Mem) :=
  o_seq (o_wI μ0 a0 0 0) fun μ1 =>
  o_seq (o_wI μ1 a0 1 0) fun μ2 =>
  o_seq (o_wI μ2 a0 2 0) fun μ3 =>
  o_seq (o_wI μ3 a0 3 0) fun μ4 =>
  o_seq (o_wI μ4 a0 4 4) fun μ5 =>
  o_seq (o_wI μ5 a0 5 0) fun μ6 =>
  o_seq (o_wI μ6 a0 6 0) fun μ7 =>
  o_seq (o_wI μ7 a0 7 0) fun μ8 =>
  o_seq (o_wI μ8 a0 8 0) fun μ9 =>
  o_seq (o_sI μ9 (rf a0 10) (o_fill (μ9.1 (rf a0 10)) 6 0)) fun μ10 =>
  o_seq (o_sI μ10 (rf a0 13) (o_fill (μ10.1 (rf a0 13)) 36 (-1))) fun μ11 =>
  o_seq (o_sI μ11 (rf a0 14) (o_fill (μ11.1 (rf a0 14)) 36 (-1))) fun μ12 =>
  o_seq (o_wI μ12 (rf a0 15) 0 0) fun μ13 =>
  o_seq (o_wI μ13 (rf a0 16) 0 0) fun μ14 =>
  some ((), μ14)
set_option maxRecDepth 20000 in
theorem dnX8_clear {X : o_Cx} (hX : o_ok X) {d : Nat} {a0 : Nat} {μ0 : o_Mem} {q : Unit → o_Mem → Prop} (h0 : o_is X a0 (.inl 8)) (h : o_Post (fX8_clear (o_rf X) a0 μ0) q) : o_Ev X (d + 1) mX8_clear 0 [some (.ref (o_ad X a0))] [] μ0 (o_QU q) := by
  unfold fX8_clear at h
  refine s_aload_n (i := 0) dX8_clear_0 rfl rfl ?_
  refine s_iconst dX8_clear_1 kI_0 ?_
  refine s_putI hX h0 fwX8_48 rfl dX8_clear_2 (o_gen h (fun μ1 h => ?_))
  refine s_aload_n (i := 0) dX8_clear_5 rfl rfl ?_
  refine s_iconst dX8_clear_6 kI_0 ?_
  refine s_putI hX h0 fwX8_51 rfl dX8_clear_7 (o_gen h (fun μ2 h => ?_))
  refine s_aload_n (i := 0) dX8_clear_10 rfl rfl ?_
  refine s_iconst dX8_clear_11 kI_0 ?_
  refine s_putI hX h0 fwX8_54 rfl dX8_clear_12 (o_gen h (fun μ3 h => ?_))
  refine s_aload_n (i := 0) dX8_clear_15 rfl rfl ?_
  refine s_iconst dX8_clear_16 kI_0 ?_
  refine s_putI hX h0 fwX8_57 rfl dX8_clear_17 (o_gen h (fun μ4 h => ?_))
  refine s_aload_n (i := 0) dX8_clear_20 rfl rfl ?_
  refine s_iconst dX8_clear_21 kI_4 ?_
  refine s_putI hX h0 fwX8_9 rfl dX8_clear_22 (o_gen h (fun μ5 h => ?_))
  refine s_aload_n (i := 0) dX8_clear_25 rfl rfl ?_
  refine s_iconst dX8_clear_26 kI_0 ?_
  refine s_putI hX h0 fwX8_60 rfl dX8_clear_27 (o_gen h (fun μ6 h => ?_))
  refine s_aload_n (i := 0) dX8_clear_30 rfl rfl ?_
  refine s_iconst dX8_clear_31 kI_0 ?_
  refine s_putZ hX h0 fwX8_63 rfl (Or.inl rfl) dX8_clear_32 (o_gen h (fun μ7 h => ?_))
  refine s_aload_n (i := 0) dX8_clear_35 rfl rfl ?_
  refine s_iconst dX8_clear_36 kI_0 ?_
  refine s_putI hX h0 fwX8_67 rfl dX8_clear_37 (o_gen h (fun μ8 h => ?_))
  refine s_aload_n (i := 0) dX8_clear_40 rfl rfl ?_
  refine s_iconst dX8_clear_41 kI_0 ?_
  refine s_putI hX h0 fwX8_70 rfl dX8_clear_42 (o_gen h (fun μ9 h => ?_))
  refine s_aload_n (i := 0) dX8_clear_45 rfl rfl ?_
  refine s_getR hX h0 flX8_19 rfl dX8_clear_46 (fun (g1 : o_is X (o_rf X a0 10) (.inr (0, 6))) => ?_)
  refine s_iconst dX8_clear_49 kI_0 ?_
  refine s_fillI (rest := []) hX g1 mlX8_73 (by decide) (Nat.le_of_ble_eq_true rfl) dX8_clear_50 (o_gen h (fun μ10 h => ?_))
  refine s_aload_n (i := 0) dX8_clear_53 rfl rfl ?_
  refine s_getR hX h0 flX8_28 rfl dX8_clear_54 (fun (g2 : o_is X (o_rf X a0 13) (.inr (0, 36))) => ?_)
  refine s_iconst dX8_clear_57 kI_m1 ?_
  refine s_fillI (rest := []) hX g2 mlX8_73 (by decide) (Nat.le_of_ble_eq_true rfl) dX8_clear_58 (o_gen h (fun μ11 h => ?_))
  refine s_aload_n (i := 0) dX8_clear_61 rfl rfl ?_
  refine s_getR hX h0 flX8_31 rfl dX8_clear_62 (fun (g3 : o_is X (o_rf X a0 14) (.inr (0, 36))) => ?_)
  refine s_iconst dX8_clear_65 kI_m1 ?_
  refine s_fillI (rest := []) hX g3 mlX8_73 (by decide) (Nat.le_of_ble_eq_true rfl) dX8_clear_66 (o_gen h (fun μ12 h => ?_))
  refine s_aload_n (i := 0) dX8_clear_69 rfl rfl ?_
  refine s_getR hX h0 flX8_37 rfl dX8_clear_70 (fun (g4 : o_is X (o_rf X a0 15) (.inl 1)) => ?_)
  refine s_iconst dX8_clear_73 kI_0 ?_
  refine s_putI hX g4 fwX8_79 rfl dX8_clear_74 (o_gen h (fun μ13 h => ?_))
  refine s_aload_n (i := 0) dX8_clear_77 rfl rfl ?_
  refine s_getR hX h0 flX8_41 rfl dX8_clear_78 (fun (g5 : o_is X (o_rf X a0 16) (.inl 1)) => ?_)
  refine s_iconst dX8_clear_81 kI_0 ?_
  refine s_putI hX g5 fwX8_79 rfl dX8_clear_82 (o_gen h (fun μ14 h => ?_))
  exact s_return rfl dX8_clear_85 ⟨rfl, o_ret h⟩
