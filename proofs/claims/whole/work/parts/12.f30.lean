theorem dX12_behindEnds_0 : decode cX12_behindEnds 0 = .ok (.iload_n 1, 1) := by decide +kernel
theorem dX12_behindEnds_1 : decode cX12_behindEnds 1 = .ok (.istore_n 2, 1) := by decide +kernel
theorem dX12_behindEnds_2 : decode cX12_behindEnds 2 = .ok (.iload_n 2, 1) := by decide +kernel
theorem dX12_behindEnds_3 : decode cX12_behindEnds 3 = .ok (.aload_n 0, 1) := by decide +kernel
theorem dX12_behindEnds_4 : decode cX12_behindEnds 4 = .ok (.getfield 7, 3) := by decide +kernel
theorem dX12_behindEnds_7 : decode cX12_behindEnds 7 = .ok (.bipush 12, 2) := by decide +kernel
theorem dX12_behindEnds_9 : decode cX12_behindEnds 9 = .ok (.iaload, 1) := by decide +kernel
theorem dX12_behindEnds_10 : decode cX12_behindEnds 10 = .ok (.if_icmp .ge 108, 3) := by decide +kernel
theorem dX12_behindEnds_13 : decode cX12_behindEnds 13 = .ok (.aload_n 0, 1) := by decide +kernel
theorem dX12_behindEnds_14 : decode cX12_behindEnds 14 = .ok (.getfield 7, 3) := by decide +kernel
theorem dX12_behindEnds_17 : decode cX12_behindEnds 17 = .ok (.sipush 259, 3) := by decide +kernel
theorem dX12_behindEnds_20 : decode cX12_behindEnds 20 = .ok (.bipush 6, 2) := by decide +kernel
theorem dX12_behindEnds_22 : decode cX12_behindEnds 22 = .ok (.iload_n 2, 1) := by decide +kernel
theorem dX12_behindEnds_23 : decode cX12_behindEnds 23 = .ok (.imul, 1) := by decide +kernel
theorem dX12_behindEnds_24 : decode cX12_behindEnds 24 = .ok (.iadd, 1) := by decide +kernel
theorem dX12_behindEnds_25 : decode cX12_behindEnds 25 = .ok (.iaload, 1) := by decide +kernel
theorem dX12_behindEnds_26 : decode cX12_behindEnds 26 = .ok (.bipush 22, 2) := by decide +kernel
theorem dX12_behindEnds_28 : decode cX12_behindEnds 28 = .ok (.if_icmp .ne 90, 3) := by decide +kernel
theorem dX12_behindEnds_31 : decode cX12_behindEnds 31 = .ok (.aload_n 0, 1) := by decide +kernel
theorem dX12_behindEnds_32 : decode cX12_behindEnds 32 = .ok (.getfield 7, 3) := by decide +kernel
theorem dX12_behindEnds_35 : decode cX12_behindEnds 35 = .ok (.sipush 259, 3) := by decide +kernel
theorem dX12_behindEnds_38 : decode cX12_behindEnds 38 = .ok (.bipush 6, 2) := by decide +kernel
theorem dX12_behindEnds_40 : decode cX12_behindEnds 40 = .ok (.iload_n 2, 1) := by decide +kernel
theorem dX12_behindEnds_41 : decode cX12_behindEnds 41 = .ok (.imul, 1) := by decide +kernel
theorem dX12_behindEnds_42 : decode cX12_behindEnds 42 = .ok (.iadd, 1) := by decide +kernel
theorem dX12_behindEnds_43 : decode cX12_behindEnds 43 = .ok (.iconst 4, 1) := by decide +kernel
theorem dX12_behindEnds_44 : decode cX12_behindEnds 44 = .ok (.iadd, 1) := by decide +kernel
theorem dX12_behindEnds_45 : decode cX12_behindEnds 45 = .ok (.iaload, 1) := by decide +kernel
theorem dX12_behindEnds_46 : decode cX12_behindEnds 46 = .ok (.istore_n 3, 1) := by decide +kernel
theorem dX12_behindEnds_47 : decode cX12_behindEnds 47 = .ok (.aload_n 0, 1) := by decide +kernel
theorem dX12_behindEnds_48 : decode cX12_behindEnds 48 = .ok (.getfield 7, 3) := by decide +kernel
theorem dX12_behindEnds_51 : decode cX12_behindEnds 51 = .ok (.sipush 259, 3) := by decide +kernel
theorem dX12_behindEnds_54 : decode cX12_behindEnds 54 = .ok (.bipush 6, 2) := by decide +kernel
theorem dX12_behindEnds_56 : decode cX12_behindEnds 56 = .ok (.iload_n 3, 1) := by decide +kernel
theorem dX12_behindEnds_57 : decode cX12_behindEnds 57 = .ok (.imul, 1) := by decide +kernel
theorem dX12_behindEnds_58 : decode cX12_behindEnds 58 = .ok (.iadd, 1) := by decide +kernel
theorem dX12_behindEnds_59 : decode cX12_behindEnds 59 = .ok (.iaload, 1) := by decide +kernel
theorem dX12_behindEnds_60 : decode cX12_behindEnds 60 = .ok (.bipush 21, 2) := by decide +kernel
theorem dX12_behindEnds_62 : decode cX12_behindEnds 62 = .ok (.if_icmp .ne 16, 3) := by decide +kernel
theorem dX12_behindEnds_65 : decode cX12_behindEnds 65 = .ok (.aload_n 0, 1) := by decide +kernel
theorem dX12_behindEnds_66 : decode cX12_behindEnds 66 = .ok (.getfield 68, 3) := by decide +kernel
theorem dX12_behindEnds_69 : decode cX12_behindEnds 69 = .ok (.iload_n 3, 1) := by decide +kernel
theorem dX12_behindEnds_70 : decode cX12_behindEnds 70 = .ok (.iaload, 1) := by decide +kernel
theorem dX12_behindEnds_71 : decode cX12_behindEnds 71 = .ok (.ifCond .le 7, 3) := by decide +kernel
theorem dX12_behindEnds_74 : decode cX12_behindEnds 74 = .ok (.iconst 1, 1) := by decide +kernel
theorem dX12_behindEnds_75 : decode cX12_behindEnds 75 = .ok (.goto 4, 3) := by decide +kernel
theorem dX12_behindEnds_78 : decode cX12_behindEnds 78 = .ok (.iconst 0, 1) := by decide +kernel
theorem dX12_behindEnds_79 : decode cX12_behindEnds 79 = .ok (.istore 4, 2) := by decide +kernel
theorem dX12_behindEnds_81 : decode cX12_behindEnds 81 = .ok (.aload_n 0, 1) := by decide +kernel
theorem dX12_behindEnds_82 : decode cX12_behindEnds 82 = .ok (.getfield 68, 3) := by decide +kernel
theorem dX12_behindEnds_85 : decode cX12_behindEnds 85 = .ok (.iload_n 3, 1) := by decide +kernel
theorem dX12_behindEnds_86 : decode cX12_behindEnds 86 = .ok (.dup2, 1) := by decide +kernel
theorem dX12_behindEnds_87 : decode cX12_behindEnds 87 = .ok (.iaload, 1) := by decide +kernel
theorem dX12_behindEnds_88 : decode cX12_behindEnds 88 = .ok (.iload 4, 2) := by decide +kernel
theorem dX12_behindEnds_90 : decode cX12_behindEnds 90 = .ok (.ifCond .eq 7, 3) := by decide +kernel
theorem dX12_behindEnds_93 : decode cX12_behindEnds 93 = .ok (.iconst 1, 1) := by decide +kernel
theorem dX12_behindEnds_94 : decode cX12_behindEnds 94 = .ok (.goto 4, 3) := by decide +kernel
theorem dX12_behindEnds_97 : decode cX12_behindEnds 97 = .ok (.iconst 0, 1) := by decide +kernel
theorem dX12_behindEnds_98 : decode cX12_behindEnds 98 = .ok (.isub, 1) := by decide +kernel
theorem dX12_behindEnds_99 : decode cX12_behindEnds 99 = .ok (.iastore, 1) := by decide +kernel
theorem dX12_behindEnds_100 : decode cX12_behindEnds 100 = .ok (.iload 4, 2) := by decide +kernel
theorem dX12_behindEnds_102 : decode cX12_behindEnds 102 = .ok (.ifCond .eq 9, 3) := by decide +kernel
theorem dX12_behindEnds_105 : decode cX12_behindEnds 105 = .ok (.iload_n 3, 1) := by decide +kernel
theorem dX12_behindEnds_106 : decode cX12_behindEnds 106 = .ok (.iconst 1, 1) := by decide +kernel
theorem dX12_behindEnds_107 : decode cX12_behindEnds 107 = .ok (.iadd, 1) := by decide +kernel
theorem dX12_behindEnds_108 : decode cX12_behindEnds 108 = .ok (.goto 6, 3) := by decide +kernel
theorem dX12_behindEnds_111 : decode cX12_behindEnds 111 = .ok (.iload_n 2, 1) := by decide +kernel
theorem dX12_behindEnds_112 : decode cX12_behindEnds 112 = .ok (.iconst 1, 1) := by decide +kernel
theorem dX12_behindEnds_113 : decode cX12_behindEnds 113 = .ok (.iadd, 1) := by decide +kernel
theorem dX12_behindEnds_114 : decode cX12_behindEnds 114 = .ok (.istore_n 2, 1) := by decide +kernel
theorem dX12_behindEnds_115 : decode cX12_behindEnds 115 = .ok (.goto (-113), 3) := by decide +kernel
theorem dX12_behindEnds_118 : decode cX12_behindEnds 118 = .ok (.iload_n 2, 1) := by decide +kernel
theorem dX12_behindEnds_119 : decode cX12_behindEnds 119 = .ok (.ireturn, 1) := by decide +kernel
noncomputable def fX12_behindEnds_j98 (rf : Nat → Nat → Nat) (a0 : Nat) (x2 : Int32) (x3 : Int32) (x4 : Int32) (b0 : Nat) (y1 : Int32) (y2 : Int32) (y3 : Int32) (μ0 : o_Mem) : Option ((Nat × (Int32)) × o_Mem) :=
  o_ck (0 ≤ (y1).toInt ∧ (y1).toInt < 80) <|
  o_seq (o_wI μ0 b0 y1.toNatClampNeg (y2 - y3)) fun μ1 =>
  if x4 = 0 then (
    some ((2, (x2 + 1)), μ1))
  else (
    some ((2, (x3 + 1)), μ1))
noncomputable def fX12_behindEnds_j79 (rf : Nat → Nat → Nat) (a0 : Nat) (x2 : Int32) (x3 : Int32) (y0 : Int32) (μ0 : o_Mem) : Option ((Nat × (Int32)) × o_Mem) :=
  o_ck (0 ≤ (x3).toInt ∧ (x3).toInt < 80) <|
  if y0 = 0 then (
    fX12_behindEnds_j98 rf a0 x2 x3 y0 (rf a0 34) x3 (μ0.1 (rf a0 34) x3.toNatClampNeg) 0 μ0)
  else (
    fX12_behindEnds_j98 rf a0 x2 x3 y0 (rf a0 34) x3 (μ0.1 (rf a0 34) x3.toNatClampNeg) 1 μ0)
noncomputable def fX12_behindEnds_j78 (rf : Nat → Nat → Nat) (a0 : Nat) (x2 : Int32) (x3 : Int32) (μ0 : o_Mem) : Option ((Nat × (Int32)) × o_Mem) :=
  fX12_behindEnds_j79 rf a0 x2 x3 0 μ0
noncomputable def fX12_behindEnds_s2 (rf : Nat → Nat → Nat) (a0 : Nat) (τ2 : Int32) (μ0 : o_Mem) : Option ((Nat × (Int32)) × o_Mem) :=
  if (μ0.1 (rf a0 0) 12) ≤ τ2 then (
    some ((118, τ2), μ0))
  else (
    o_ck (0 ≤ ((259 + (6 * τ2))).toInt ∧ ((259 + (6 * τ2))).toInt < 3756) <|
    if (μ0.1 (rf a0 0) ((259 + (6 * τ2))).toNatClampNeg) = 22 then (
      o_ck (0 ≤ (((259 + (6 * τ2)) + 4)).toInt ∧ (((259 + (6 * τ2)) + 4)).toInt < 3756) <|
      o_ck (0 ≤ ((259 + (6 * (μ0.1 (rf a0 0) (((259 + (6 * τ2)) + 4)).toNatClampNeg)))).toInt ∧ ((259 + (6 * (μ0.1 (rf a0 0) (((259 + (6 * τ2)) + 4)).toNatClampNeg)))).toInt < 3756) <|
      if (μ0.1 (rf a0 0) ((259 + (6 * (μ0.1 (rf a0 0) (((259 + (6 * τ2)) + 4)).toNatClampNeg)))).toNatClampNeg) = 21 then (
        o_ck (0 ≤ ((μ0.1 (rf a0 0) (((259 + (6 * τ2)) + 4)).toNatClampNeg)).toInt ∧ ((μ0.1 (rf a0 0) (((259 + (6 * τ2)) + 4)).toNatClampNeg)).toInt < 80) <|
        if (μ0.1 (rf a0 34) ((μ0.1 (rf a0 0) (((259 + (6 * τ2)) + 4)).toNatClampNeg)).toNatClampNeg) ≤ 0 then (
          fX12_behindEnds_j78 rf a0 τ2 (μ0.1 (rf a0 0) (((259 + (6 * τ2)) + 4)).toNatClampNeg) μ0)
        else (
          fX12_behindEnds_j79 rf a0 τ2 (μ0.1 (rf a0 0) (((259 + (6 * τ2)) + 4)).toNatClampNeg) 1 μ0))
      else (
        fX12_behindEnds_j78 rf a0 τ2 (μ0.1 (rf a0 0) (((259 + (6 * τ2)) + 4)).toNatClampNeg) μ0))
    else (
      some ((118, τ2), μ0)))
noncomputable def fX12_behindEnds (rf : Nat → Nat → Nat) (a0 : Nat) (x1 : Int32) (μ0 : o_Mem) : Option (Int32 × o_Mem) :=
  o_bd (o_lp 2 (fX12_behindEnds_s2 rf a0) o_fuel (x1 : Int32) μ0) fun ex1 μ1 =>
  if ex1.1 = 118 then (
    some (ex1.2, μ1))
  else
    none
set_option maxRecDepth 20000 in
theorem dnX12_behindEnds_j98 {X : o_Cx} (hX : o_ok X) {d : Nat} {a0 : Nat} {x2 : Int32} {x3 : Int32} {x4 : Int32} {b0 : Nat} {y1 : Int32} {y2 : Int32} {y3 : Int32} {μ0 : o_Mem} {K : (Nat × (Int32)) → o_Mem → Prop} {Q : Option Value → o_Mem → Prop} (h0 : o_is X a0 (.inl 12)) (hb0 : o_is X b0 (.inr (0, 80))) (h : o_Post (fX12_behindEnds_j98 (o_rf X) a0 x2 x3 x4 b0 y1 y2 y3 μ0) K) (kh : ∀ (τ2 : Int32) (μ : o_Mem), K (2, τ2) μ → o_Ev X (d + 0) mX12_behindEnds 2 [some (.ref (o_ad X a0)), none, some (.int τ2), none, none] [] μ Q) (k118 : ∀ (τ2 : Int32) (μ : o_Mem), K (118, τ2) μ → o_Ev X (d + 0) mX12_behindEnds 118 [none, none, some (.int τ2), none, none] [] μ Q) : o_Ev X (d + 0) mX12_behindEnds 98 [some (.ref (o_ad X a0)), none, some (.int x2), some (.int x3), some (.int x4)] [.int y3, .int y2, .int y1, .ref (o_ad X b0)] μ0 Q := by
  unfold fX12_behindEnds_j98 at h
  refine s_isub dX12_behindEnds_98 ?_
  have hc := o_ck_c h
  have h := o_ck_k h
  refine s_iastK hX hb0 hc rfl dX12_behindEnds_99 (o_gen h (fun μ1 h => ?_))
  refine s_iload dX12_behindEnds_100 rfl ?_
  refine s_if_eq (tgt := 111) dX12_behindEnds_102 rfl (fun c1 => ?_) (fun c1 => ?_)
  · have h := o_if_t c1 h
    refine s_iload_n (i := 2) dX12_behindEnds_111 rfl rfl ?_
    refine s_iconst dX12_behindEnds_112 kI_1 ?_
    refine s_iadd dX12_behindEnds_113 ?_
    refine s_istore_n (i := 2) dX12_behindEnds_114 rfl (Nat.le_of_ble_eq_true rfl) rfl ?_
    refine s_goto (tgt := 2) dX12_behindEnds_115 rfl ?_
    refine s_mask [true, false, true, false, false] (L' := [some (.ref (o_ad X a0)), none, some (.int (x2 + 1)), none, none]) rfl ?_
    exact kh (x2 + 1) _ (o_ret h)
  · have h := o_if_f c1 h
    refine s_iload_n (i := 3) dX12_behindEnds_105 rfl rfl ?_
    refine s_iconst dX12_behindEnds_106 kI_1 ?_
    refine s_iadd dX12_behindEnds_107 ?_
    refine s_goto (tgt := 114) dX12_behindEnds_108 rfl ?_
    refine s_istore_n (i := 2) dX12_behindEnds_114 rfl (Nat.le_of_ble_eq_true rfl) rfl ?_
    refine s_goto (tgt := 2) dX12_behindEnds_115 rfl ?_
    refine s_mask [true, false, true, false, false] (L' := [some (.ref (o_ad X a0)), none, some (.int (x3 + 1)), none, none]) rfl ?_
    exact kh (x3 + 1) _ (o_ret h)
set_option maxRecDepth 20000 in
theorem dnX12_behindEnds_j79 {X : o_Cx} (hX : o_ok X) {d : Nat} {a0 : Nat} {x2 : Int32} {x3 : Int32} {y0 : Int32} {μ0 : o_Mem} {K : (Nat × (Int32)) → o_Mem → Prop} {Q : Option Value → o_Mem → Prop} (h0 : o_is X a0 (.inl 12)) (h : o_Post (fX12_behindEnds_j79 (o_rf X) a0 x2 x3 y0 μ0) K) (kh : ∀ (τ2 : Int32) (μ : o_Mem), K (2, τ2) μ → o_Ev X (d + 0) mX12_behindEnds 2 [some (.ref (o_ad X a0)), none, some (.int τ2), none, none] [] μ Q) (k118 : ∀ (τ2 : Int32) (μ : o_Mem), K (118, τ2) μ → o_Ev X (d + 0) mX12_behindEnds 118 [none, none, some (.int τ2), none, none] [] μ Q) : o_Ev X (d + 0) mX12_behindEnds 79 [some (.ref (o_ad X a0)), none, some (.int x2), some (.int x3), none] [.int y0] μ0 Q := by
  unfold fX12_behindEnds_j79 at h
  refine s_istore dX12_behindEnds_79 (Nat.le_of_ble_eq_true rfl) rfl ?_
  refine s_aload_n (i := 0) dX12_behindEnds_81 rfl rfl ?_
  refine s_getR hX h0 flX12_68 rfl dX12_behindEnds_82 (fun (g1 : o_is X (o_rf X a0 34) (.inr (0, 80))) => ?_)
  refine s_iload_n (i := 3) dX12_behindEnds_85 rfl rfl ?_
  refine s_dup2 dX12_behindEnds_86 rfl rfl ?_
  have hc := o_ck_c h
  have h := o_ck_k h
  refine s_ialdK g1 hc rfl dX12_behindEnds_87 ?_
  refine s_iload dX12_behindEnds_88 rfl ?_
  refine s_if_eq (tgt := 97) dX12_behindEnds_90 rfl (fun c1 => ?_) (fun c1 => ?_)
  · have h := o_if_t c1 h
    refine s_iconst dX12_behindEnds_97 kI_0 ?_
    refine s_mask [true, false, true, true, true] (L' := [some (.ref (o_ad X a0)), none, some (.int x2), some (.int x3), some (.int y0)]) rfl ?_
    exact dnX12_behindEnds_j98 hX h0 g1 h kh k118
  · have h := o_if_f c1 h
    refine s_iconst dX12_behindEnds_93 kI_1 ?_
    refine s_goto (tgt := 98) dX12_behindEnds_94 rfl ?_
    refine s_mask [true, false, true, true, true] (L' := [some (.ref (o_ad X a0)), none, some (.int x2), some (.int x3), some (.int y0)]) rfl ?_
    exact dnX12_behindEnds_j98 hX h0 g1 h kh k118
set_option maxRecDepth 20000 in
theorem dnX12_behindEnds_j78 {X : o_Cx} (hX : o_ok X) {d : Nat} {a0 : Nat} {x2 : Int32} {x3 : Int32} {μ0 : o_Mem} {K : (Nat × (Int32)) → o_Mem → Prop} {Q : Option Value → o_Mem → Prop} (h0 : o_is X a0 (.inl 12)) (h : o_Post (fX12_behindEnds_j78 (o_rf X) a0 x2 x3 μ0) K) (kh : ∀ (τ2 : Int32) (μ : o_Mem), K (2, τ2) μ → o_Ev X (d + 0) mX12_behindEnds 2 [some (.ref (o_ad X a0)), none, some (.int τ2), none, none] [] μ Q) (k118 : ∀ (τ2 : Int32) (μ : o_Mem), K (118, τ2) μ → o_Ev X (d + 0) mX12_behindEnds 118 [none, none, some (.int τ2), none, none] [] μ Q) : o_Ev X (d + 0) mX12_behindEnds 78 [some (.ref (o_ad X a0)), none, some (.int x2), some (.int x3), none] [] μ0 Q := by
  unfold fX12_behindEnds_j78 at h
  refine s_iconst dX12_behindEnds_78 kI_0 ?_
  refine s_mask [true, false, true, true, false] (L' := [some (.ref (o_ad X a0)), none, some (.int x2), some (.int x3), none]) rfl ?_
  exact dnX12_behindEnds_j79 hX h0 h kh k118
set_option maxRecDepth 20000 in
theorem dnX12_behindEnds_s2 {X : o_Cx} (hX : o_ok X) {d : Nat} {a0 : Nat} {τ2 : Int32} {μ0 : o_Mem} {K : (Nat × (Int32)) → o_Mem → Prop} {Q : Option Value → o_Mem → Prop} (h0 : o_is X a0 (.inl 12)) (h : o_Post (fX12_behindEnds_s2 (o_rf X) a0 τ2 μ0) K) (kh : ∀ (τ2 : Int32) (μ : o_Mem), K (2, τ2) μ → o_Ev X (d + 0) mX12_behindEnds 2 [some (.ref (o_ad X a0)), none, some (.int τ2), none, none] [] μ Q) (k118 : ∀ (τ2 : Int32) (μ : o_Mem), K (118, τ2) μ → o_Ev X (d + 0) mX12_behindEnds 118 [none, none, some (.int τ2), none, none] [] μ Q) : o_Ev X (d + 0) mX12_behindEnds 2 [some (.ref (o_ad X a0)), none, some (.int τ2), none, none] [] μ0 Q := by
  unfold fX12_behindEnds_s2 at h
  refine s_iload_n (i := 2) dX12_behindEnds_2 rfl rfl ?_
  refine s_aload_n (i := 0) dX12_behindEnds_3 rfl rfl ?_
  refine s_getR hX h0 flX12_7 rfl dX12_behindEnds_4 (fun (g1 : o_is X (o_rf X a0 0) (.inr (0, 3756))) => ?_)
  refine s_bipush dX12_behindEnds_7 kB_12 ?_
  refine s_ialdK g1 ⟨by decide, by decide⟩ kN_12 dX12_behindEnds_9 ?_
  refine s_icmp_ge (tgt := 118) dX12_behindEnds_10 rfl (fun c1 => ?_) (fun c1 => ?_)
  · have h := o_if_t c1 h
    refine s_mask [false, false, true, false, false] (L' := [none, none, some (.int τ2), none, none]) rfl ?_
    exact k118 τ2 _ (o_ret h)
  · have h := o_if_f c1 h
    refine s_aload_n (i := 0) dX12_behindEnds_13 rfl rfl ?_
    refine s_getR hX h0 flX12_7 rfl dX12_behindEnds_14 (fun (g2 : o_is X (o_rf X a0 0) (.inr (0, 3756))) => ?_)
    refine s_sipush dX12_behindEnds_17 kS_259 ?_
    refine s_bipush dX12_behindEnds_20 kB_6 ?_
    refine s_iload_n (i := 2) dX12_behindEnds_22 rfl rfl ?_
    refine s_imul dX12_behindEnds_23 ?_
    refine s_iadd dX12_behindEnds_24 ?_
    have hc := o_ck_c h
    have h := o_ck_k h
    refine s_ialdK g2 hc rfl dX12_behindEnds_25 ?_
    refine s_bipush dX12_behindEnds_26 kB_22 ?_
    refine s_icmp_ne (tgt := 118) dX12_behindEnds_28 rfl (fun c1 => ?_) (fun c1 => ?_)
    · have h := o_if_f c1 h
      refine s_mask [false, false, true, false, false] (L' := [none, none, some (.int τ2), none, none]) rfl ?_
      exact k118 τ2 _ (o_ret h)
    · have h := o_if_t c1 h
      refine s_aload_n (i := 0) dX12_behindEnds_31 rfl rfl ?_
      refine s_getR hX h0 flX12_7 rfl dX12_behindEnds_32 (fun (g3 : o_is X (o_rf X a0 0) (.inr (0, 3756))) => ?_)
      refine s_sipush dX12_behindEnds_35 kS_259 ?_
      refine s_bipush dX12_behindEnds_38 kB_6 ?_
      refine s_iload_n (i := 2) dX12_behindEnds_40 rfl rfl ?_
      refine s_imul dX12_behindEnds_41 ?_
      refine s_iadd dX12_behindEnds_42 ?_
      refine s_iconst dX12_behindEnds_43 kI_4 ?_
      refine s_iadd dX12_behindEnds_44 ?_
      have hc := o_ck_c h
      have h := o_ck_k h
      refine s_ialdK g3 hc rfl dX12_behindEnds_45 ?_
      refine s_istore_n (i := 3) dX12_behindEnds_46 rfl (Nat.le_of_ble_eq_true rfl) rfl ?_
      refine s_aload_n (i := 0) dX12_behindEnds_47 rfl rfl ?_
      refine s_getR hX h0 flX12_7 rfl dX12_behindEnds_48 (fun (g4 : o_is X (o_rf X a0 0) (.inr (0, 3756))) => ?_)
      refine s_sipush dX12_behindEnds_51 kS_259 ?_
      refine s_bipush dX12_behindEnds_54 kB_6 ?_
      refine s_iload_n (i := 3) dX12_behindEnds_56 rfl rfl ?_
      refine s_imul dX12_behindEnds_57 ?_
      refine s_iadd dX12_behindEnds_58 ?_
      have hc := o_ck_c h
      have h := o_ck_k h
      refine s_ialdK g4 hc rfl dX12_behindEnds_59 ?_
      refine s_bipush dX12_behindEnds_60 kB_21 ?_
      refine s_icmp_ne (tgt := 78) dX12_behindEnds_62 rfl (fun c1 => ?_) (fun c1 => ?_)
      · have h := o_if_f c1 h
        refine s_mask [true, false, true, true, false] (L' := [some (.ref (o_ad X a0)), none, some (.int τ2), some (.int (μ0.1 (o_rf X a0 0) (((259 + (6 * τ2)) + 4)).toNatClampNeg)), none]) rfl ?_
        exact dnX12_behindEnds_j78 hX h0 h kh k118
      · have h := o_if_t c1 h
        refine s_aload_n (i := 0) dX12_behindEnds_65 rfl rfl ?_
        refine s_getR hX h0 flX12_68 rfl dX12_behindEnds_66 (fun (g5 : o_is X (o_rf X a0 34) (.inr (0, 80))) => ?_)
        refine s_iload_n (i := 3) dX12_behindEnds_69 rfl rfl ?_
        have hc := o_ck_c h
        have h := o_ck_k h
        refine s_ialdK g5 hc rfl dX12_behindEnds_70 ?_
        refine s_if_le (tgt := 78) dX12_behindEnds_71 rfl (fun c1 => ?_) (fun c1 => ?_)
        · have h := o_if_t c1 h
          refine s_mask [true, false, true, true, false] (L' := [some (.ref (o_ad X a0)), none, some (.int τ2), some (.int (μ0.1 (o_rf X a0 0) (((259 + (6 * τ2)) + 4)).toNatClampNeg)), none]) rfl ?_
          exact dnX12_behindEnds_j78 hX h0 h kh k118
        · have h := o_if_f c1 h
          refine s_iconst dX12_behindEnds_74 kI_1 ?_
          refine s_goto (tgt := 79) dX12_behindEnds_75 rfl ?_
          refine s_mask [true, false, true, true, false] (L' := [some (.ref (o_ad X a0)), none, some (.int τ2), some (.int (μ0.1 (o_rf X a0 0) (((259 + (6 * τ2)) + 4)).toNatClampNeg)), none]) rfl ?_
          exact dnX12_behindEnds_j79 hX h0 h kh k118
set_option maxRecDepth 20000 in
theorem dnX12_behindEnds {X : o_Cx} (hX : o_ok X) {d : Nat} {a0 : Nat} {x1 : Int32} {μ0 : o_Mem} {q : Int32 → o_Mem → Prop} (h0 : o_is X a0 (.inl 12)) (h : o_Post (fX12_behindEnds (o_rf X) a0 x1 μ0) q) : o_Ev X (d + 0) mX12_behindEnds 0 [some (.ref (o_ad X a0)), some (.int x1), none, none, none] [] μ0 (o_QI q) := by
  unfold fX12_behindEnds at h
  refine s_iload_n (i := 1) dX12_behindEnds_0 rfl rfl ?_
  refine s_istore_n (i := 2) dX12_behindEnds_1 rfl (Nat.le_of_ble_eq_true rfl) rfl ?_
  refine s_mask [true, false, true, false, false] (L' := [some (.ref (o_ad X a0)), none, some (.int x1), none, none]) rfl ?_
  refine o_lp_ev (fun τ2 => [some (.ref (o_ad X a0)), none, some (.int τ2), none, none]) (fun τ2 μ _K h kv ke2 => dnX12_behindEnds_s2 hX h0 h kv (fun τ2 μ1 h => ?_)) o_fuel x1 μ0 (o_bdp h)
  · have h := o_if_t rfl (ke2 (118, τ2) μ1 (o_ne rfl) h)
    refine s_iload_n (i := 2) dX12_behindEnds_118 rfl rfl ?_
    exact s_ireturn rfl dX12_behindEnds_119 ⟨_, rfl, o_ret h⟩
theorem dX12_lives_0 : decode cX12_lives 0 = .ok (.aload_n 0, 1) := by decide +kernel
theorem dX12_lives_1 : decode cX12_lives 1 = .ok (.iload_n 1, 1) := by decide +kernel
theorem dX12_lives_2 : decode cX12_lives 2 = .ok (.putfield 449, 3) := by decide +kernel
theorem dX12_lives_5 : decode cX12_lives 5 = .ok (.aload_n 0, 1) := by decide +kernel
theorem dX12_lives_6 : decode cX12_lives 6 = .ok (.iconst 0, 1) := by decide +kernel
theorem dX12_lives_7 : decode cX12_lives 7 = .ok (.putfield 468, 3) := by decide +kernel
theorem dX12_lives_10 : decode cX12_lives 10 = .ok (.iconst 0, 1) := by decide +kernel
theorem dX12_lives_11 : decode cX12_lives 11 = .ok (.istore_n 2, 1) := by decide +kernel
theorem dX12_lives_12 : decode cX12_lives 12 = .ok (.iload_n 2, 1) := by decide +kernel
theorem dX12_lives_13 : decode cX12_lives 13 = .ok (.iconst 5, 1) := by decide +kernel
theorem dX12_lives_14 : decode cX12_lives 14 = .ok (.if_icmp .ge 16, 3) := by decide +kernel
theorem dX12_lives_17 : decode cX12_lives 17 = .ok (.aload_n 0, 1) := by decide +kernel
theorem dX12_lives_18 : decode cX12_lives 18 = .ok (.getfield 71, 3) := by decide +kernel
theorem dX12_lives_21 : decode cX12_lives 21 = .ok (.iload_n 2, 1) := by decide +kernel
theorem dX12_lives_22 : decode cX12_lives 22 = .ok (.iconst 0, 1) := by decide +kernel
theorem dX12_lives_23 : decode cX12_lives 23 = .ok (.iastore, 1) := by decide +kernel
theorem dX12_lives_24 : decode cX12_lives 24 = .ok (.iinc 2 1, 3) := by decide +kernel
theorem dX12_lives_27 : decode cX12_lives 27 = .ok (.goto (-15), 3) := by decide +kernel
theorem dX12_lives_30 : decode cX12_lives 30 = .ok (.iconst 0, 1) := by decide +kernel
theorem dX12_lives_31 : decode cX12_lives 31 = .ok (.istore_n 2, 1) := by decide +kernel
theorem dX12_lives_32 : decode cX12_lives 32 = .ok (.iload_n 2, 1) := by decide +kernel
theorem dX12_lives_33 : decode cX12_lives 33 = .ok (.aload_n 0, 1) := by decide +kernel
theorem dX12_lives_34 : decode cX12_lives 34 = .ok (.getfield 7, 3) := by decide +kernel
theorem dX12_lives_37 : decode cX12_lives 37 = .ok (.bipush 12, 2) := by decide +kernel
theorem dX12_lives_39 : decode cX12_lives 39 = .ok (.iaload, 1) := by decide +kernel
theorem dX12_lives_40 : decode cX12_lives 40 = .ok (.if_icmp .ge 145, 3) := by decide +kernel
theorem dX12_lives_43 : decode cX12_lives 43 = .ok (.aload_n 0, 1) := by decide +kernel
theorem dX12_lives_44 : decode cX12_lives 44 = .ok (.getfield 468, 3) := by decide +kernel
theorem dX12_lives_47 : decode cX12_lives 47 = .ok (.sipush 300, 3) := by decide +kernel
theorem dX12_lives_50 : decode cX12_lives 50 = .ok (.if_icmp .ne 11, 3) := by decide +kernel
theorem dX12_lives_53 : decode cX12_lives 53 = .ok (.aload_n 0, 1) := by decide +kernel
theorem dX12_lives_54 : decode cX12_lives 54 = .ok (.getfield 71, 3) := by decide +kernel
theorem dX12_lives_57 : decode cX12_lives 57 = .ok (.iconst 4, 1) := by decide +kernel
theorem dX12_lives_58 : decode cX12_lives 58 = .ok (.iconst 1, 1) := by decide +kernel
theorem dX12_lives_59 : decode cX12_lives 59 = .ok (.iastore, 1) := by decide +kernel
theorem dX12_lives_60 : decode cX12_lives 60 = .ok (.return_, 1) := by decide +kernel
theorem dX12_lives_61 : decode cX12_lives 61 = .ok (.sipush 259, 3) := by decide +kernel
theorem dX12_lives_64 : decode cX12_lives 64 = .ok (.bipush 6, 2) := by decide +kernel
theorem dX12_lives_66 : decode cX12_lives 66 = .ok (.iload_n 2, 1) := by decide +kernel
theorem dX12_lives_67 : decode cX12_lives 67 = .ok (.imul, 1) := by decide +kernel
theorem dX12_lives_68 : decode cX12_lives 68 = .ok (.iadd, 1) := by decide +kernel
theorem dX12_lives_69 : decode cX12_lives 69 = .ok (.istore_n 3, 1) := by decide +kernel
theorem dX12_lives_70 : decode cX12_lives 70 = .ok (.aload_n 0, 1) := by decide +kernel
theorem dX12_lives_71 : decode cX12_lives 71 = .ok (.dup, 1) := by decide +kernel
theorem dX12_lives_72 : decode cX12_lives 72 = .ok (.getfield 468, 3) := by decide +kernel
theorem dX12_lives_75 : decode cX12_lives 75 = .ok (.iconst 1, 1) := by decide +kernel
theorem dX12_lives_76 : decode cX12_lives 76 = .ok (.iadd, 1) := by decide +kernel
theorem dX12_lives_77 : decode cX12_lives 77 = .ok (.putfield 468, 3) := by decide +kernel
theorem dX12_lives_80 : decode cX12_lives 80 = .ok (.aload_n 0, 1) := by decide +kernel
theorem dX12_lives_81 : decode cX12_lives 81 = .ok (.getfield 7, 3) := by decide +kernel
theorem dX12_lives_84 : decode cX12_lives 84 = .ok (.iload_n 3, 1) := by decide +kernel
theorem dX12_lives_85 : decode cX12_lives 85 = .ok (.iaload, 1) := by decide +kernel
theorem dX12_lives_86 : decode cX12_lives 86 = .ok (.bipush 23, 2) := by decide +kernel
theorem dX12_lives_88 : decode cX12_lives 88 = .ok (.if_icmp .ne 4, 3) := by decide +kernel
theorem dX12_lives_91 : decode cX12_lives 91 = .ok (.return_, 1) := by decide +kernel
theorem dX12_lives_92 : decode cX12_lives 92 = .ok (.aload_n 0, 1) := by decide +kernel
theorem dX12_lives_93 : decode cX12_lives 93 = .ok (.getfield 71, 3) := by decide +kernel
theorem dX12_lives_96 : decode cX12_lives 96 = .ok (.iconst 0, 1) := by decide +kernel
theorem dX12_lives_97 : decode cX12_lives 97 = .ok (.dup2, 1) := by decide +kernel
theorem dX12_lives_98 : decode cX12_lives 98 = .ok (.iaload, 1) := by decide +kernel
theorem dX12_lives_99 : decode cX12_lives 99 = .ok (.aload_n 0, 1) := by decide +kernel
theorem dX12_lives_100 : decode cX12_lives 100 = .ok (.iload_n 3, 1) := by decide +kernel
theorem dX12_lives_101 : decode cX12_lives 101 = .ok (.invokevirtual 471, 3) := by decide +kernel
theorem dX12_lives_104 : decode cX12_lives 104 = .ok (.ifCond .eq 7, 3) := by decide +kernel
theorem dX12_lives_107 : decode cX12_lives 107 = .ok (.iconst 0, 1) := by decide +kernel
theorem dX12_lives_108 : decode cX12_lives 108 = .ok (.goto 4, 3) := by decide +kernel
theorem dX12_lives_111 : decode cX12_lives 111 = .ok (.iconst 1, 1) := by decide +kernel
theorem dX12_lives_112 : decode cX12_lives 112 = .ok (.iadd, 1) := by decide +kernel
theorem dX12_lives_113 : decode cX12_lives 113 = .ok (.iastore, 1) := by decide +kernel
theorem dX12_lives_114 : decode cX12_lives 114 = .ok (.aload_n 0, 1) := by decide +kernel
theorem dX12_lives_115 : decode cX12_lives 115 = .ok (.getfield 7, 3) := by decide +kernel
theorem dX12_lives_118 : decode cX12_lives 118 = .ok (.iload_n 3, 1) := by decide +kernel
theorem dX12_lives_119 : decode cX12_lives 119 = .ok (.iaload, 1) := by decide +kernel
theorem dX12_lives_120 : decode cX12_lives 120 = .ok (.bipush 21, 2) := by decide +kernel
theorem dX12_lives_122 : decode cX12_lives 122 = .ok (.if_icmp .ne 19, 3) := by decide +kernel
theorem dX12_lives_125 : decode cX12_lives 125 = .ok (.aload_n 0, 1) := by decide +kernel
theorem dX12_lives_126 : decode cX12_lives 126 = .ok (.getfield 68, 3) := by decide +kernel
theorem dX12_lives_129 : decode cX12_lives 129 = .ok (.iload_n 2, 1) := by decide +kernel
theorem dX12_lives_130 : decode cX12_lives 130 = .ok (.aload_n 0, 1) := by decide +kernel
theorem dX12_lives_131 : decode cX12_lives 131 = .ok (.getfield 7, 3) := by decide +kernel
theorem dX12_lives_134 : decode cX12_lives 134 = .ok (.iload_n 3, 1) := by decide +kernel
theorem dX12_lives_135 : decode cX12_lives 135 = .ok (.iconst 1, 1) := by decide +kernel
theorem dX12_lives_136 : decode cX12_lives 136 = .ok (.iadd, 1) := by decide +kernel
theorem dX12_lives_137 : decode cX12_lives 137 = .ok (.iaload, 1) := by decide +kernel
theorem dX12_lives_138 : decode cX12_lives 138 = .ok (.iconst 1, 1) := by decide +kernel
theorem dX12_lives_139 : decode cX12_lives 139 = .ok (.isub, 1) := by decide +kernel
theorem dX12_lives_140 : decode cX12_lives 140 = .ok (.iastore, 1) := by decide +kernel
theorem dX12_lives_141 : decode cX12_lives 141 = .ok (.aload_n 0, 1) := by decide +kernel
theorem dX12_lives_142 : decode cX12_lives 142 = .ok (.aload_n 0, 1) := by decide +kernel
theorem dX12_lives_143 : decode cX12_lives 143 = .ok (.getfield 7, 3) := by decide +kernel
theorem dX12_lives_146 : decode cX12_lives 146 = .ok (.iload_n 3, 1) := by decide +kernel
theorem dX12_lives_147 : decode cX12_lives 147 = .ok (.iaload, 1) := by decide +kernel
theorem dX12_lives_148 : decode cX12_lives 148 = .ok (.sipush 2000, 3) := by decide +kernel
theorem dX12_lives_151 : decode cX12_lives 151 = .ok (.if_icmp .lt 24, 3) := by decide +kernel
theorem dX12_lives_154 : decode cX12_lives 154 = .ok (.aload_n 0, 1) := by decide +kernel
theorem dX12_lives_155 : decode cX12_lives 155 = .ok (.iload_n 3, 1) := by decide +kernel
theorem dX12_lives_156 : decode cX12_lives 156 = .ok (.invokevirtual 474, 3) := by decide +kernel
theorem dX12_lives_159 : decode cX12_lives 159 = .ok (.ifCond .ne 16, 3) := by decide +kernel
theorem dX12_lives_162 : decode cX12_lives 162 = .ok (.aload_n 0, 1) := by decide +kernel
theorem dX12_lives_163 : decode cX12_lives 163 = .ok (.getfield 7, 3) := by decide +kernel
theorem dX12_lives_166 : decode cX12_lives 166 = .ok (.iload_n 3, 1) := by decide +kernel
theorem dX12_lives_167 : decode cX12_lives 167 = .ok (.iconst 4, 1) := by decide +kernel
theorem dX12_lives_168 : decode cX12_lives 168 = .ok (.iadd, 1) := by decide +kernel
theorem dX12_lives_169 : decode cX12_lives 169 = .ok (.iaload, 1) := by decide +kernel
theorem dX12_lives_170 : decode cX12_lives 170 = .ok (.iconst 1, 1) := by decide +kernel
theorem dX12_lives_171 : decode cX12_lives 171 = .ok (.iadd, 1) := by decide +kernel
theorem dX12_lives_172 : decode cX12_lives 172 = .ok (.goto 6, 3) := by decide +kernel
theorem dX12_lives_175 : decode cX12_lives 175 = .ok (.iload_n 2, 1) := by decide +kernel
theorem dX12_lives_176 : decode cX12_lives 176 = .ok (.iconst 1, 1) := by decide +kernel
theorem dX12_lives_177 : decode cX12_lives 177 = .ok (.iadd, 1) := by decide +kernel
theorem dX12_lives_178 : decode cX12_lives 178 = .ok (.invokevirtual 477, 3) := by decide +kernel
theorem dX12_lives_181 : decode cX12_lives 181 = .ok (.istore_n 2, 1) := by decide +kernel
theorem dX12_lives_182 : decode cX12_lives 182 = .ok (.goto (-150), 3) := by decide +kernel
theorem dX12_lives_185 : decode cX12_lives 185 = .ok (.return_, 1) := by decide +kernel
noncomputable def fX12_lives_s12 (rf : Nat → Nat → Nat) (a0 : Nat) (τ12 : Int32) (μ0 : o_Mem) : Option ((Nat × (Int32)) × o_Mem) :=
  if 5 ≤ τ12 then (
    some ((30, 0), μ0))
  else (
    o_ck (0 ≤ (τ12).toInt ∧ (τ12).toInt < 5) <|
    o_seq (o_wI μ0 (rf a0 35) τ12.toNatClampNeg 0) fun μ1 =>
    some ((12, (τ12 + 1)), μ1))
noncomputable def fX12_lives_j178 (rf : Nat → Nat → Nat) (a0 : Nat) (b0 : Nat) (y1 : Int32) (μ0 : o_Mem) : Option ((Nat × (Int32)) × o_Mem) :=
  o_bd (fX12_behindEnds rf b0 y1 μ0) fun r1 μ1 =>
  some ((32, r1), μ1)
noncomputable def fX12_lives_j175 (rf : Nat → Nat → Nat) (a0 : Nat) (x2 : Int32) (b0 : Nat) (μ0 : o_Mem) : Option ((Nat × (Int32)) × o_Mem) :=
  fX12_lives_j178 rf a0 b0 (x2 + 1) μ0
noncomputable def fX12_lives_j141 (rf : Nat → Nat → Nat) (a0 : Nat) (x2 : Int32) (x3 : Int32) (μ0 : o_Mem) : Option ((Nat × (Int32)) × o_Mem) :=
  o_ck (0 ≤ (x3).toInt ∧ (x3).toInt < 3756) <|
  if (μ0.1 (rf a0 0) x3.toNatClampNeg) < 2000 then (
    fX12_lives_j175 rf a0 x2 a0 μ0)
  else (
    o_bd (fX12_holds rf a0 x3 μ0) fun r1 μ1 =>
    if r1 = 0 then (
      o_ck (0 ≤ ((x3 + 4)).toInt ∧ ((x3 + 4)).toInt < 3756) <|
      fX12_lives_j178 rf a0 a0 ((μ1.1 (rf a0 0) ((x3 + 4)).toNatClampNeg) + 1) μ1)
    else (
      fX12_lives_j175 rf a0 x2 a0 μ1))
noncomputable def fX12_lives_j112 (rf : Nat → Nat → Nat) (a0 : Nat) (x2 : Int32) (x3 : Int32) (b0 : Nat) (y1 : Int32) (y2 : Int32) (y3 : Int32) (μ0 : o_Mem) : Option ((Nat × (Int32)) × o_Mem) :=
  o_ck (0 ≤ (y1).toInt ∧ (y1).toInt < 5) <|
  o_seq (o_wI μ0 b0 y1.toNatClampNeg (y2 + y3)) fun μ1 =>
  o_ck (0 ≤ (x3).toInt ∧ (x3).toInt < 3756) <|
  if (μ1.1 (rf a0 0) x3.toNatClampNeg) = 21 then (
    o_ck (0 ≤ ((x3 + 1)).toInt ∧ ((x3 + 1)).toInt < 3756) <|
    o_ck (0 ≤ (x2).toInt ∧ (x2).toInt < 80) <|
    o_seq (o_wI μ1 (rf a0 34) x2.toNatClampNeg ((μ1.1 (rf a0 0) ((x3 + 1)).toNatClampNeg) - 1)) fun μ2 =>
    fX12_lives_j141 rf a0 x2 x3 μ2)
  else (
    fX12_lives_j141 rf a0 x2 x3 μ1)
noncomputable def fX12_lives_s32 (rf : Nat → Nat → Nat) (a0 : Nat) (τ32 : Int32) (μ0 : o_Mem) : Option ((Nat × (Int32)) × o_Mem) :=
  if (μ0.1 (rf a0 0) 12) ≤ τ32 then (
    some ((185, 0), μ0))
  else (
    if (μ0.1 a0 33) = 300 then (
      some ((53, 0), μ0))
    else (
      o_seq (o_wI μ0 a0 33 ((μ0.1 a0 33) + 1)) fun μ1 =>
      o_ck (0 ≤ ((259 + (6 * τ32))).toInt ∧ ((259 + (6 * τ32))).toInt < 3756) <|
      if (μ1.1 (rf a0 0) ((259 + (6 * τ32))).toNatClampNeg) = 23 then (
        some ((91, 0), μ1))
      else (
        o_bd (fX12_does rf a0 (259 + (6 * τ32)) μ1) fun r1 μ2 =>
        if r1 = 0 then (
          fX12_lives_j112 rf a0 τ32 (259 + (6 * τ32)) (rf a0 35) 0 (μ1.1 (rf a0 35) 0) 1 μ2)
        else (
          fX12_lives_j112 rf a0 τ32 (259 + (6 * τ32)) (rf a0 35) 0 (μ1.1 (rf a0 35) 0) 0 μ2))))
noncomputable def fX12_lives (rf : Nat → Nat → Nat) (a0 : Nat) (x1 : Int32) (μ0 : o_Mem) : Option (Unit × o_Mem) :=
  o_seq (o_wI μ0 a0 32 x1) fun μ1 =>
  o_seq (o_wI μ1 a0 33 0) fun μ2 =>
  o_bd (o_lp 12 (fX12_lives_s12 rf a0) o_fuel (0 : Int32) μ2) fun ex3 μ3 =>
  if ex3.1 = 30 then (
    o_bd (o_lp 32 (fX12_lives_s32 rf a0) o_fuel (0 : Int32) μ3) fun ex4 μ4 =>
    if ex4.1 = 53 then (
      o_seq (o_wI μ4 (rf a0 35) 4 1) fun μ5 =>
      some ((), μ5))
    else
    if ex4.1 = 91 then (
      some ((), μ4))
    else
    if ex4.1 = 185 then (
      some ((), μ4))
    else
      none)
  else
    none
set_option maxRecDepth 20000 in
theorem dnX12_lives_s12 {X : o_Cx} (hX : o_ok X) {d : Nat} {a0 : Nat} {τ12 : Int32} {μ0 : o_Mem} {K : (Nat × (Int32)) → o_Mem → Prop} {Q : Option Value → o_Mem → Prop} (h0 : o_is X a0 (.inl 12)) (h : o_Post (fX12_lives_s12 (o_rf X) a0 τ12 μ0) K) (kh : ∀ (τ12 : Int32) (μ : o_Mem), K (12, τ12) μ → o_Ev X (d + 10) mX12_lives 12 [some (.ref (o_ad X a0)), none, some (.int τ12), none] [] μ Q) (k30 : ∀ (τ12 : Int32) (μ : o_Mem), K (30, τ12) μ → o_Ev X (d + 10) mX12_lives 30 [some (.ref (o_ad X a0)), none, none, none] [] μ Q) : o_Ev X (d + 10) mX12_lives 12 [some (.ref (o_ad X a0)), none, some (.int τ12), none] [] μ0 Q := by
  unfold fX12_lives_s12 at h
  refine s_iload_n (i := 2) dX12_lives_12 rfl rfl ?_
  refine s_iconst dX12_lives_13 kI_5 ?_
  refine s_icmp_ge (tgt := 30) dX12_lives_14 rfl (fun c1 => ?_) (fun c1 => ?_)
  · have h := o_if_t c1 h
    refine s_mask [true, false, false, false] (L' := [some (.ref (o_ad X a0)), none, none, none]) rfl ?_
    exact k30 0 _ (o_ret h)
  · have h := o_if_f c1 h
    refine s_aload_n (i := 0) dX12_lives_17 rfl rfl ?_
    refine s_getR hX h0 flX12_71 rfl dX12_lives_18 (fun (g1 : o_is X (o_rf X a0 35) (.inr (0, 5))) => ?_)
    refine s_iload_n (i := 2) dX12_lives_21 rfl rfl ?_
    refine s_iconst dX12_lives_22 kI_0 ?_
    have hc := o_ck_c h
    have h := o_ck_k h
    refine s_iastK hX g1 hc rfl dX12_lives_23 (o_gen h (fun μ1 h => ?_))
    refine s_iinc (v := (τ12 + 1)) dX12_lives_24 rfl rfl (Nat.le_of_ble_eq_true rfl) rfl ?_
    refine s_goto (tgt := 12) dX12_lives_27 rfl ?_
    refine s_mask [true, false, true, false] (L' := [some (.ref (o_ad X a0)), none, some (.int (τ12 + 1)), none]) rfl ?_
    exact kh (τ12 + 1) _ (o_ret h)
set_option maxRecDepth 20000 in
theorem dnX12_lives_j178 {X : o_Cx} (hX : o_ok X) {d : Nat} {a0 : Nat} {b0 : Nat} {y1 : Int32} {μ0 : o_Mem} {K : (Nat × (Int32)) → o_Mem → Prop} {Q : Option Value → o_Mem → Prop} (h0 : o_is X a0 (.inl 12)) (hb0 : o_is X b0 (.inl 12)) (h : o_Post (fX12_lives_j178 (o_rf X) a0 b0 y1 μ0) K) (kh : ∀ (τ32 : Int32) (μ : o_Mem), K (32, τ32) μ → o_Ev X (d + 10) mX12_lives 32 [some (.ref (o_ad X a0)), none, some (.int τ32), none] [] μ Q) (k53 : ∀ (τ32 : Int32) (μ : o_Mem), K (53, τ32) μ → o_Ev X (d + 10) mX12_lives 53 [some (.ref (o_ad X a0)), none, none, none] [] μ Q) (k91 : ∀ (τ32 : Int32) (μ : o_Mem), K (91, τ32) μ → o_Ev X (d + 10) mX12_lives 91 [none, none, none, none] [] μ Q) (k185 : ∀ (τ32 : Int32) (μ : o_Mem), K (185, τ32) μ → o_Ev X (d + 10) mX12_lives 185 [none, none, none, none] [] μ Q) : o_Ev X (d + 10) mX12_lives 178 [some (.ref (o_ad X a0)), none, none, none] [.int y1, .ref (o_ad X b0)] μ0 Q := by
  unfold fX12_lives_j178 at h
  refine s_callVi (C := mX12_behindEnds) (As := [.int y1]) (rest := []) (L0 := [some (.ref (o_ad X b0)), some (.int y1), none, none, none]) hX hb0 clX12_477 dX12_lives_178 rfl rfl (Nat.le_of_ble_eq_true rfl) (Nat.le_of_ble_eq_true rfl) (dnX12_behindEnds hX hb0 (o_bdp h)) (fun r1 μ1 h => ?_)
  refine s_istore_n (i := 2) dX12_lives_181 rfl (Nat.le_of_ble_eq_true rfl) rfl ?_
  refine s_goto (tgt := 32) dX12_lives_182 rfl ?_
  refine s_mask [true, false, true, false] (L' := [some (.ref (o_ad X a0)), none, some (.int r1), none]) rfl ?_
  exact kh r1 _ (o_ret h)
set_option maxRecDepth 20000 in
theorem dnX12_lives_j175 {X : o_Cx} (hX : o_ok X) {d : Nat} {a0 : Nat} {x2 : Int32} {b0 : Nat} {μ0 : o_Mem} {K : (Nat × (Int32)) → o_Mem → Prop} {Q : Option Value → o_Mem → Prop} (h0 : o_is X a0 (.inl 12)) (hb0 : o_is X b0 (.inl 12)) (h : o_Post (fX12_lives_j175 (o_rf X) a0 x2 b0 μ0) K) (kh : ∀ (τ32 : Int32) (μ : o_Mem), K (32, τ32) μ → o_Ev X (d + 10) mX12_lives 32 [some (.ref (o_ad X a0)), none, some (.int τ32), none] [] μ Q) (k53 : ∀ (τ32 : Int32) (μ : o_Mem), K (53, τ32) μ → o_Ev X (d + 10) mX12_lives 53 [some (.ref (o_ad X a0)), none, none, none] [] μ Q) (k91 : ∀ (τ32 : Int32) (μ : o_Mem), K (91, τ32) μ → o_Ev X (d + 10) mX12_lives 91 [none, none, none, none] [] μ Q) (k185 : ∀ (τ32 : Int32) (μ : o_Mem), K (185, τ32) μ → o_Ev X (d + 10) mX12_lives 185 [none, none, none, none] [] μ Q) : o_Ev X (d + 10) mX12_lives 175 [some (.ref (o_ad X a0)), none, some (.int x2), none] [.ref (o_ad X b0)] μ0 Q := by
  unfold fX12_lives_j175 at h
  refine s_iload_n (i := 2) dX12_lives_175 rfl rfl ?_
  refine s_iconst dX12_lives_176 kI_1 ?_
  refine s_iadd dX12_lives_177 ?_
  refine s_mask [true, false, false, false] (L' := [some (.ref (o_ad X a0)), none, none, none]) rfl ?_
  exact dnX12_lives_j178 hX h0 hb0 h kh k53 k91 k185
set_option maxRecDepth 20000 in
theorem dnX12_lives_j141 {X : o_Cx} (hX : o_ok X) {d : Nat} {a0 : Nat} {x2 : Int32} {x3 : Int32} {μ0 : o_Mem} {K : (Nat × (Int32)) → o_Mem → Prop} {Q : Option Value → o_Mem → Prop} (h0 : o_is X a0 (.inl 12)) (h : o_Post (fX12_lives_j141 (o_rf X) a0 x2 x3 μ0) K) (kh : ∀ (τ32 : Int32) (μ : o_Mem), K (32, τ32) μ → o_Ev X (d + 10) mX12_lives 32 [some (.ref (o_ad X a0)), none, some (.int τ32), none] [] μ Q) (k53 : ∀ (τ32 : Int32) (μ : o_Mem), K (53, τ32) μ → o_Ev X (d + 10) mX12_lives 53 [some (.ref (o_ad X a0)), none, none, none] [] μ Q) (k91 : ∀ (τ32 : Int32) (μ : o_Mem), K (91, τ32) μ → o_Ev X (d + 10) mX12_lives 91 [none, none, none, none] [] μ Q) (k185 : ∀ (τ32 : Int32) (μ : o_Mem), K (185, τ32) μ → o_Ev X (d + 10) mX12_lives 185 [none, none, none, none] [] μ Q) : o_Ev X (d + 10) mX12_lives 141 [some (.ref (o_ad X a0)), none, some (.int x2), some (.int x3)] [] μ0 Q := by
  unfold fX12_lives_j141 at h
  refine s_aload_n (i := 0) dX12_lives_141 rfl rfl ?_
  refine s_aload_n (i := 0) dX12_lives_142 rfl rfl ?_
  refine s_getR hX h0 flX12_7 rfl dX12_lives_143 (fun (g1 : o_is X (o_rf X a0 0) (.inr (0, 3756))) => ?_)
  refine s_iload_n (i := 3) dX12_lives_146 rfl rfl ?_
  have hc := o_ck_c h
  have h := o_ck_k h
  refine s_ialdK g1 hc rfl dX12_lives_147 ?_
  refine s_sipush dX12_lives_148 kS_2000 ?_
  refine s_icmp_lt (tgt := 175) dX12_lives_151 rfl (fun c1 => ?_) (fun c1 => ?_)
  · have h := o_if_t c1 h
    refine s_mask [true, false, true, false] (L' := [some (.ref (o_ad X a0)), none, some (.int x2), none]) rfl ?_
    exact dnX12_lives_j175 hX h0 h0 h kh k53 k91 k185
  · have h := o_if_f c1 h
    refine s_aload_n (i := 0) dX12_lives_154 rfl rfl ?_
    refine s_iload_n (i := 3) dX12_lives_155 rfl rfl ?_
    refine s_callVz (C := mX12_holds) (As := [.int x3]) (rest := [.ref (o_ad X a0)]) (L0 := [some (.ref (o_ad X a0)), some (.int x3), none, none]) hX h0 clX12_474 dX12_lives_156 rfl rfl (Nat.le_of_ble_eq_true rfl) (Nat.le_of_ble_eq_true rfl) (dnX12_holds hX h0 (o_bdp h)) (fun r1 μ1 zr1 h => ?_)
    refine s_if_ne (tgt := 175) dX12_lives_159 rfl (fun c1 => ?_) (fun c1 => ?_)
    · have h := o_if_f c1 h
      refine s_mask [true, false, true, false] (L' := [some (.ref (o_ad X a0)), none, some (.int x2), none]) rfl ?_
      exact dnX12_lives_j175 hX h0 h0 h kh k53 k91 k185
    · have h := o_if_t c1 h
      refine s_aload_n (i := 0) dX12_lives_162 rfl rfl ?_
      refine s_getR hX h0 flX12_7 rfl dX12_lives_163 (fun (g2 : o_is X (o_rf X a0 0) (.inr (0, 3756))) => ?_)
      refine s_iload_n (i := 3) dX12_lives_166 rfl rfl ?_
      refine s_iconst dX12_lives_167 kI_4 ?_
      refine s_iadd dX12_lives_168 ?_
      have hc := o_ck_c h
      have h := o_ck_k h
      refine s_ialdK g2 hc rfl dX12_lives_169 ?_
      refine s_iconst dX12_lives_170 kI_1 ?_
      refine s_iadd dX12_lives_171 ?_
      refine s_goto (tgt := 178) dX12_lives_172 rfl ?_
      refine s_mask [true, false, false, false] (L' := [some (.ref (o_ad X a0)), none, none, none]) rfl ?_
      exact dnX12_lives_j178 hX h0 h0 h kh k53 k91 k185
set_option maxRecDepth 20000 in
theorem dnX12_lives_j112 {X : o_Cx} (hX : o_ok X) {d : Nat} {a0 : Nat} {x2 : Int32} {x3 : Int32} {b0 : Nat} {y1 : Int32} {y2 : Int32} {y3 : Int32} {μ0 : o_Mem} {K : (Nat × (Int32)) → o_Mem → Prop} {Q : Option Value → o_Mem → Prop} (h0 : o_is X a0 (.inl 12)) (hb0 : o_is X b0 (.inr (0, 5))) (h : o_Post (fX12_lives_j112 (o_rf X) a0 x2 x3 b0 y1 y2 y3 μ0) K) (kh : ∀ (τ32 : Int32) (μ : o_Mem), K (32, τ32) μ → o_Ev X (d + 10) mX12_lives 32 [some (.ref (o_ad X a0)), none, some (.int τ32), none] [] μ Q) (k53 : ∀ (τ32 : Int32) (μ : o_Mem), K (53, τ32) μ → o_Ev X (d + 10) mX12_lives 53 [some (.ref (o_ad X a0)), none, none, none] [] μ Q) (k91 : ∀ (τ32 : Int32) (μ : o_Mem), K (91, τ32) μ → o_Ev X (d + 10) mX12_lives 91 [none, none, none, none] [] μ Q) (k185 : ∀ (τ32 : Int32) (μ : o_Mem), K (185, τ32) μ → o_Ev X (d + 10) mX12_lives 185 [none, none, none, none] [] μ Q) : o_Ev X (d + 10) mX12_lives 112 [some (.ref (o_ad X a0)), none, some (.int x2), some (.int x3)] [.int y3, .int y2, .int y1, .ref (o_ad X b0)] μ0 Q := by
  unfold fX12_lives_j112 at h
  refine s_iadd dX12_lives_112 ?_
  have hc := o_ck_c h
  have h := o_ck_k h
  refine s_iastK hX hb0 hc rfl dX12_lives_113 (o_gen h (fun μ1 h => ?_))
  refine s_aload_n (i := 0) dX12_lives_114 rfl rfl ?_
  refine s_getR hX h0 flX12_7 rfl dX12_lives_115 (fun (g1 : o_is X (o_rf X a0 0) (.inr (0, 3756))) => ?_)
  refine s_iload_n (i := 3) dX12_lives_118 rfl rfl ?_
  have hc := o_ck_c h
  have h := o_ck_k h
  refine s_ialdK g1 hc rfl dX12_lives_119 ?_
  refine s_bipush dX12_lives_120 kB_21 ?_
  refine s_icmp_ne (tgt := 141) dX12_lives_122 rfl (fun c1 => ?_) (fun c1 => ?_)
  · have h := o_if_f c1 h
    refine s_mask [true, false, true, true] (L' := [some (.ref (o_ad X a0)), none, some (.int x2), some (.int x3)]) rfl ?_
    exact dnX12_lives_j141 hX h0 h kh k53 k91 k185
  · have h := o_if_t c1 h
    refine s_aload_n (i := 0) dX12_lives_125 rfl rfl ?_
    refine s_getR hX h0 flX12_68 rfl dX12_lives_126 (fun (g2 : o_is X (o_rf X a0 34) (.inr (0, 80))) => ?_)
    refine s_iload_n (i := 2) dX12_lives_129 rfl rfl ?_
    refine s_aload_n (i := 0) dX12_lives_130 rfl rfl ?_
    refine s_getR hX h0 flX12_7 rfl dX12_lives_131 (fun (g3 : o_is X (o_rf X a0 0) (.inr (0, 3756))) => ?_)
    refine s_iload_n (i := 3) dX12_lives_134 rfl rfl ?_
    refine s_iconst dX12_lives_135 kI_1 ?_
    refine s_iadd dX12_lives_136 ?_
    have hc := o_ck_c h
    have h := o_ck_k h
    refine s_ialdK g3 hc rfl dX12_lives_137 ?_
    refine s_iconst dX12_lives_138 kI_1 ?_
    refine s_isub dX12_lives_139 ?_
    have hc := o_ck_c h
    have h := o_ck_k h
    refine s_iastK hX g2 hc rfl dX12_lives_140 (o_gen h (fun μ2 h => ?_))
    refine s_mask [true, false, true, true] (L' := [some (.ref (o_ad X a0)), none, some (.int x2), some (.int x3)]) rfl ?_
    exact dnX12_lives_j141 hX h0 h kh k53 k91 k185
set_option maxRecDepth 20000 in
theorem dnX12_lives_s32 {X : o_Cx} (hX : o_ok X) {d : Nat} {a0 : Nat} {τ32 : Int32} {μ0 : o_Mem} {K : (Nat × (Int32)) → o_Mem → Prop} {Q : Option Value → o_Mem → Prop} (h0 : o_is X a0 (.inl 12)) (h : o_Post (fX12_lives_s32 (o_rf X) a0 τ32 μ0) K) (kh : ∀ (τ32 : Int32) (μ : o_Mem), K (32, τ32) μ → o_Ev X (d + 10) mX12_lives 32 [some (.ref (o_ad X a0)), none, some (.int τ32), none] [] μ Q) (k53 : ∀ (τ32 : Int32) (μ : o_Mem), K (53, τ32) μ → o_Ev X (d + 10) mX12_lives 53 [some (.ref (o_ad X a0)), none, none, none] [] μ Q) (k91 : ∀ (τ32 : Int32) (μ : o_Mem), K (91, τ32) μ → o_Ev X (d + 10) mX12_lives 91 [none, none, none, none] [] μ Q) (k185 : ∀ (τ32 : Int32) (μ : o_Mem), K (185, τ32) μ → o_Ev X (d + 10) mX12_lives 185 [none, none, none, none] [] μ Q) : o_Ev X (d + 10) mX12_lives 32 [some (.ref (o_ad X a0)), none, some (.int τ32), none] [] μ0 Q := by
  unfold fX12_lives_s32 at h
  refine s_iload_n (i := 2) dX12_lives_32 rfl rfl ?_
  refine s_aload_n (i := 0) dX12_lives_33 rfl rfl ?_
  refine s_getR hX h0 flX12_7 rfl dX12_lives_34 (fun (g1 : o_is X (o_rf X a0 0) (.inr (0, 3756))) => ?_)
  refine s_bipush dX12_lives_37 kB_12 ?_
  refine s_ialdK g1 ⟨by decide, by decide⟩ kN_12 dX12_lives_39 ?_
  refine s_icmp_ge (tgt := 185) dX12_lives_40 rfl (fun c1 => ?_) (fun c1 => ?_)
  · have h := o_if_t c1 h
    refine s_mask [false, false, false, false] (L' := [none, none, none, none]) rfl ?_
    exact k185 0 _ (o_ret h)
  · have h := o_if_f c1 h
    refine s_aload_n (i := 0) dX12_lives_43 rfl rfl ?_
    refine s_getI h0 flX12_468 rfl dX12_lives_44 ?_
    refine s_sipush dX12_lives_47 kS_300 ?_
    refine s_icmp_ne (tgt := 61) dX12_lives_50 rfl (fun c1 => ?_) (fun c1 => ?_)
    · have h := o_if_f c1 h
      refine s_sipush dX12_lives_61 kS_259 ?_
      refine s_bipush dX12_lives_64 kB_6 ?_
      refine s_iload_n (i := 2) dX12_lives_66 rfl rfl ?_
      refine s_imul dX12_lives_67 ?_
      refine s_iadd dX12_lives_68 ?_
      refine s_istore_n (i := 3) dX12_lives_69 rfl (Nat.le_of_ble_eq_true rfl) rfl ?_
      refine s_aload_n (i := 0) dX12_lives_70 rfl rfl ?_
      refine s_dup dX12_lives_71 rfl ?_
      refine s_getI h0 flX12_468 rfl dX12_lives_72 ?_
      refine s_iconst dX12_lives_75 kI_1 ?_
      refine s_iadd dX12_lives_76 ?_
      refine s_putI hX h0 fwX12_468 rfl dX12_lives_77 (o_gen h (fun μ1 h => ?_))
      refine s_aload_n (i := 0) dX12_lives_80 rfl rfl ?_
      refine s_getR hX h0 flX12_7 rfl dX12_lives_81 (fun (g2 : o_is X (o_rf X a0 0) (.inr (0, 3756))) => ?_)
      refine s_iload_n (i := 3) dX12_lives_84 rfl rfl ?_
      have hc := o_ck_c h
      have h := o_ck_k h
      refine s_ialdK g2 hc rfl dX12_lives_85 ?_
      refine s_bipush dX12_lives_86 kB_23 ?_
      refine s_icmp_ne (tgt := 92) dX12_lives_88 rfl (fun c1 => ?_) (fun c1 => ?_)
      · have h := o_if_f c1 h
        refine s_aload_n (i := 0) dX12_lives_92 rfl rfl ?_
        refine s_getR hX h0 flX12_71 rfl dX12_lives_93 (fun (g3 : o_is X (o_rf X a0 35) (.inr (0, 5))) => ?_)
        refine s_iconst dX12_lives_96 kI_0 ?_
        refine s_dup2 dX12_lives_97 rfl rfl ?_
        refine s_ialdK g3 ⟨by decide, by decide⟩ kN_0 dX12_lives_98 ?_
        refine s_aload_n (i := 0) dX12_lives_99 rfl rfl ?_
        refine s_iload_n (i := 3) dX12_lives_100 rfl rfl ?_
        refine s_callVz (C := mX12_does) (As := [.int (259 + (6 * τ32))]) (rest := [.int (μ1.1 (o_rf X a0 35) 0), .int 0, .ref (o_ad X (o_rf X a0 35))]) (L0 := [some (.ref (o_ad X a0)), some (.int (259 + (6 * τ32)))]) hX h0 clX12_471 dX12_lives_101 rfl rfl (Nat.le_of_ble_eq_true rfl) (Nat.le_of_ble_eq_true rfl) (dnX12_does hX h0 (o_bdp h)) (fun r1 μ2 zr1 h => ?_)
        refine s_if_eq (tgt := 111) dX12_lives_104 rfl (fun c1 => ?_) (fun c1 => ?_)
        · have h := o_if_t c1 h
          refine s_iconst dX12_lives_111 kI_1 ?_
          refine s_mask [true, false, true, true] (L' := [some (.ref (o_ad X a0)), none, some (.int τ32), some (.int (259 + (6 * τ32)))]) rfl ?_
          exact dnX12_lives_j112 hX h0 g3 h kh k53 k91 k185
        · have h := o_if_f c1 h
          refine s_iconst dX12_lives_107 kI_0 ?_
          refine s_goto (tgt := 112) dX12_lives_108 rfl ?_
          refine s_mask [true, false, true, true] (L' := [some (.ref (o_ad X a0)), none, some (.int τ32), some (.int (259 + (6 * τ32)))]) rfl ?_
          exact dnX12_lives_j112 hX h0 g3 h kh k53 k91 k185
      · have h := o_if_t c1 h
        refine s_mask [false, false, false, false] (L' := [none, none, none, none]) rfl ?_
        exact k91 0 _ (o_ret h)
    · have h := o_if_t c1 h
      refine s_mask [true, false, false, false] (L' := [some (.ref (o_ad X a0)), none, none, none]) rfl ?_
      exact k53 0 _ (o_ret h)
set_option maxRecDepth 20000 in
theorem dnX12_lives {X : o_Cx} (hX : o_ok X) {d : Nat} {a0 : Nat} {x1 : Int32} {μ0 : o_Mem} {q : Unit → o_Mem → Prop} (h0 : o_is X a0 (.inl 12)) (h : o_Post (fX12_lives (o_rf X) a0 x1 μ0) q) : o_Ev X (d + 10) mX12_lives 0 [some (.ref (o_ad X a0)), some (.int x1), none, none] [] μ0 (o_QU q) := by
  unfold fX12_lives at h
  refine s_aload_n (i := 0) dX12_lives_0 rfl rfl ?_
  refine s_iload_n (i := 1) dX12_lives_1 rfl rfl ?_
  refine s_putI hX h0 fwX12_449 rfl dX12_lives_2 (o_gen h (fun μ1 h => ?_))
  refine s_aload_n (i := 0) dX12_lives_5 rfl rfl ?_
  refine s_iconst dX12_lives_6 kI_0 ?_
  refine s_putI hX h0 fwX12_468 rfl dX12_lives_7 (o_gen h (fun μ2 h => ?_))
  refine s_iconst dX12_lives_10 kI_0 ?_
  refine s_istore_n (i := 2) dX12_lives_11 rfl (Nat.le_of_ble_eq_true rfl) rfl ?_
  refine s_mask [true, false, true, false] (L' := [some (.ref (o_ad X a0)), none, some (.int 0), none]) rfl ?_
  refine o_lp_ev (fun τ12 => [some (.ref (o_ad X a0)), none, some (.int τ12), none]) (fun τ12 μ _K h kv ke12 => dnX12_lives_s12 hX h0 h kv (fun τ12 μ3 h => ?_)) o_fuel 0 μ2 (o_bdp h)
  · have h := o_if_t rfl (ke12 (30, τ12) μ3 (o_ne rfl) h)
    refine s_iconst dX12_lives_30 kI_0 ?_
    refine s_istore_n (i := 2) dX12_lives_31 rfl (Nat.le_of_ble_eq_true rfl) rfl ?_
    refine s_mask [true, false, true, false] (L' := [some (.ref (o_ad X a0)), none, some (.int 0), none]) rfl ?_
    refine o_lp_ev (fun τ32 => [some (.ref (o_ad X a0)), none, some (.int τ32), none]) (fun τ32 μ _K h kv ke32 => dnX12_lives_s32 hX h0 h kv (fun τ32 μ4 h => ?_) (fun τ32 μ4 h => ?_) (fun τ32 μ4 h => ?_)) o_fuel 0 μ3 (o_bdp h)
    · have h := o_if_t rfl (ke32 (53, τ32) μ4 (o_ne rfl) h)
      refine s_aload_n (i := 0) dX12_lives_53 rfl rfl ?_
      refine s_getR hX h0 flX12_71 rfl dX12_lives_54 (fun (g1 : o_is X (o_rf X a0 35) (.inr (0, 5))) => ?_)
      refine s_iconst dX12_lives_57 kI_4 ?_
      refine s_iconst dX12_lives_58 kI_1 ?_
      refine s_iastK hX g1 ⟨by decide, by decide⟩ kN_4 dX12_lives_59 (o_gen h (fun μ5 h => ?_))
      exact s_return rfl dX12_lives_60 ⟨rfl, o_ret h⟩
    · have h := o_if_t rfl (o_if_f (o_ne rfl) (ke32 (91, τ32) μ4 (o_ne rfl) h))
      exact s_return rfl dX12_lives_91 ⟨rfl, o_ret h⟩
    · have h := o_if_t rfl (o_if_f (o_ne rfl) (o_if_f (o_ne rfl) (ke32 (185, τ32) μ4 (o_ne rfl) h)))
      exact s_return rfl dX12_lives_185 ⟨rfl, o_ret h⟩
theorem dX12_live_0 : decode cX12_live 0 = .ok (.iload_n 1, 1) := by decide +kernel
theorem dX12_live_1 : decode cX12_live 1 = .ok (.i2l, 1) := by decide +kernel
theorem dX12_live_2 : decode cX12_live 2 = .ok (.lconst 0, 1) := by decide +kernel
theorem dX12_live_3 : decode cX12_live 3 = .ok (.ldc2_w 480, 3) := by decide +kernel
theorem dX12_live_6 : decode cX12_live 6 = .ok (.invokestatic 348, 3) := by decide +kernel
theorem dX12_live_9 : decode cX12_live 9 = .ok (.ifCond .ne 9, 3) := by decide +kernel
theorem dX12_live_12 : decode cX12_live 12 = .ok (.aload_n 0, 1) := by decide +kernel
theorem dX12_live_13 : decode cX12_live 13 = .ok (.iconst 1, 1) := by decide +kernel
theorem dX12_live_14 : decode cX12_live 14 = .ok (.invokevirtual 87, 3) := by decide +kernel
theorem dX12_live_17 : decode cX12_live 17 = .ok (.ireturn, 1) := by decide +kernel
theorem dX12_live_18 : decode cX12_live 18 = .ok (.aload_n 0, 1) := by decide +kernel
theorem dX12_live_19 : decode cX12_live 19 = .ok (.getfield 7, 3) := by decide +kernel
theorem dX12_live_22 : decode cX12_live 22 = .ok (.bipush 12, 2) := by decide +kernel
theorem dX12_live_24 : decode cX12_live 24 = .ok (.iaload, 1) := by decide +kernel
theorem dX12_live_25 : decode cX12_live 25 = .ok (.iconst (-1), 1) := by decide +kernel
theorem dX12_live_26 : decode cX12_live 26 = .ok (.if_icmp .ne 10, 3) := by decide +kernel
theorem dX12_live_29 : decode cX12_live 29 = .ok (.aload_n 0, 1) := by decide +kernel
theorem dX12_live_30 : decode cX12_live 30 = .ok (.bipush 6, 2) := by decide +kernel
theorem dX12_live_32 : decode cX12_live 32 = .ok (.invokevirtual 87, 3) := by decide +kernel
theorem dX12_live_35 : decode cX12_live 35 = .ok (.ireturn, 1) := by decide +kernel
theorem dX12_live_36 : decode cX12_live 36 = .ok (.aload_n 0, 1) := by decide +kernel
theorem dX12_live_37 : decode cX12_live 37 = .ok (.iload_n 1, 1) := by decide +kernel
theorem dX12_live_38 : decode cX12_live 38 = .ok (.invokevirtual 482, 3) := by decide +kernel
theorem dX12_live_41 : decode cX12_live 41 = .ok (.iconst 0, 1) := by decide +kernel
theorem dX12_live_42 : decode cX12_live 42 = .ok (.istore_n 2, 1) := by decide +kernel
theorem dX12_live_43 : decode cX12_live 43 = .ok (.iload_n 2, 1) := by decide +kernel
theorem dX12_live_44 : decode cX12_live 44 = .ok (.iconst 5, 1) := by decide +kernel
theorem dX12_live_45 : decode cX12_live 45 = .ok (.if_icmp .ge 21, 3) := by decide +kernel
theorem dX12_live_48 : decode cX12_live 48 = .ok (.aload_n 0, 1) := by decide +kernel
theorem dX12_live_49 : decode cX12_live 49 = .ok (.getfield 74, 3) := by decide +kernel
theorem dX12_live_52 : decode cX12_live 52 = .ok (.iload_n 2, 1) := by decide +kernel
theorem dX12_live_53 : decode cX12_live 53 = .ok (.aload_n 0, 1) := by decide +kernel
theorem dX12_live_54 : decode cX12_live 54 = .ok (.getfield 71, 3) := by decide +kernel
theorem dX12_live_57 : decode cX12_live 57 = .ok (.iload_n 2, 1) := by decide +kernel
theorem dX12_live_58 : decode cX12_live 58 = .ok (.iaload, 1) := by decide +kernel
theorem dX12_live_59 : decode cX12_live 59 = .ok (.iastore, 1) := by decide +kernel
theorem dX12_live_60 : decode cX12_live 60 = .ok (.iinc 2 1, 3) := by decide +kernel
theorem dX12_live_63 : decode cX12_live 63 = .ok (.goto (-20), 3) := by decide +kernel
theorem dX12_live_66 : decode cX12_live 66 = .ok (.aload_n 0, 1) := by decide +kernel
theorem dX12_live_67 : decode cX12_live 67 = .ok (.iconst 1, 1) := by decide +kernel
theorem dX12_live_68 : decode cX12_live 68 = .ok (.putfield 485, 3) := by decide +kernel
theorem dX12_live_71 : decode cX12_live 71 = .ok (.aload_n 0, 1) := by decide +kernel
theorem dX12_live_72 : decode cX12_live 72 = .ok (.aload_n 0, 1) := by decide +kernel
theorem dX12_live_73 : decode cX12_live 73 = .ok (.getfield 468, 3) := by decide +kernel
theorem dX12_live_76 : decode cX12_live 76 = .ok (.invokevirtual 91, 3) := by decide +kernel
theorem dX12_live_79 : decode cX12_live 79 = .ok (.ireturn, 1) := by decide +kernel
noncomputable def fX12_live_s43 (rf : Nat → Nat → Nat) (a0 : Nat) (τ43 : Int32) (μ0 : o_Mem) : Option ((Nat × (Int32)) × o_Mem) :=
  if 5 ≤ τ43 then (
    some ((66, 0), μ0))
  else (
    o_ck (0 ≤ (τ43).toInt ∧ (τ43).toInt < 5) <|
    o_ck (0 ≤ (τ43).toInt ∧ (τ43).toInt < 5) <|
    o_seq (o_wI μ0 (rf a0 36) τ43.toNatClampNeg (μ0.1 (rf a0 35) τ43.toNatClampNeg)) fun μ1 =>
    some ((43, (τ43 + 1)), μ1))
noncomputable def fX12_live (rf : Nat → Nat → Nat) (a0 : Nat) (x1 : Int32) (μ0 : o_Mem) : Option (Int32 × o_Mem) :=
  o_bd (fX12_isFrom rf x1.toInt64 (0 : Int64) (9999 : Int64) μ0) fun r1 μ1 =>
  if r1 = 0 then (
    o_bd (fX12_refuse rf a0 1 μ1) fun r4 μ7 =>
    some (r4, μ7))
  else (
    if (μ1.1 (rf a0 0) 12) = (-1) then (
      o_bd (fX12_refuse rf a0 6 μ1) fun r3 μ6 =>
      some (r3, μ6))
    else (
      o_bd (fX12_lives rf a0 x1 μ1) fun _u μ2 =>
      o_bd (o_lp 43 (fX12_live_s43 rf a0) o_fuel (0 : Int32) μ2) fun ex3 μ3 =>
      if ex3.1 = 66 then (
        o_seq (o_wI μ3 a0 37 1) fun μ4 =>
        o_bd (fX12_gives rf a0 (μ4.1 a0 33) μ4) fun r2 μ5 =>
        some (r2, μ5))
      else
        none))
set_option maxRecDepth 20000 in
theorem dnX12_live_s43 {X : o_Cx} (hX : o_ok X) {d : Nat} {a0 : Nat} {τ43 : Int32} {μ0 : o_Mem} {K : (Nat × (Int32)) → o_Mem → Prop} {Q : Option Value → o_Mem → Prop} (h0 : o_is X a0 (.inl 12)) (h : o_Post (fX12_live_s43 (o_rf X) a0 τ43 μ0) K) (kh : ∀ (τ43 : Int32) (μ : o_Mem), K (43, τ43) μ → o_Ev X (d + 11) mX12_live 43 [some (.ref (o_ad X a0)), none, some (.int τ43)] [] μ Q) (k66 : ∀ (τ43 : Int32) (μ : o_Mem), K (66, τ43) μ → o_Ev X (d + 11) mX12_live 66 [some (.ref (o_ad X a0)), none, none] [] μ Q) : o_Ev X (d + 11) mX12_live 43 [some (.ref (o_ad X a0)), none, some (.int τ43)] [] μ0 Q := by
  unfold fX12_live_s43 at h
  refine s_iload_n (i := 2) dX12_live_43 rfl rfl ?_
  refine s_iconst dX12_live_44 kI_5 ?_
  refine s_icmp_ge (tgt := 66) dX12_live_45 rfl (fun c1 => ?_) (fun c1 => ?_)
  · have h := o_if_t c1 h
    refine s_mask [true, false, false] (L' := [some (.ref (o_ad X a0)), none, none]) rfl ?_
    exact k66 0 _ (o_ret h)
  · have h := o_if_f c1 h
    refine s_aload_n (i := 0) dX12_live_48 rfl rfl ?_
    refine s_getR hX h0 flX12_74 rfl dX12_live_49 (fun (g1 : o_is X (o_rf X a0 36) (.inr (0, 5))) => ?_)
    refine s_iload_n (i := 2) dX12_live_52 rfl rfl ?_
    refine s_aload_n (i := 0) dX12_live_53 rfl rfl ?_
    refine s_getR hX h0 flX12_71 rfl dX12_live_54 (fun (g2 : o_is X (o_rf X a0 35) (.inr (0, 5))) => ?_)
    refine s_iload_n (i := 2) dX12_live_57 rfl rfl ?_
    have hc := o_ck_c h
    have h := o_ck_k h
    refine s_ialdK g2 hc rfl dX12_live_58 ?_
    have hc := o_ck_c h
    have h := o_ck_k h
    refine s_iastK hX g1 hc rfl dX12_live_59 (o_gen h (fun μ1 h => ?_))
    refine s_iinc (v := (τ43 + 1)) dX12_live_60 rfl rfl (Nat.le_of_ble_eq_true rfl) rfl ?_
    refine s_goto (tgt := 43) dX12_live_63 rfl ?_
    refine s_mask [true, false, true] (L' := [some (.ref (o_ad X a0)), none, some (.int (τ43 + 1))]) rfl ?_
    exact kh (τ43 + 1) _ (o_ret h)
set_option maxRecDepth 20000 in
theorem dnX12_live {X : o_Cx} (hX : o_ok X) {d : Nat} {a0 : Nat} {x1 : Int32} {μ0 : o_Mem} {q : Int32 → o_Mem → Prop} (h0 : o_is X a0 (.inl 12)) (h : o_Post (fX12_live (o_rf X) a0 x1 μ0) q) : o_Ev X (d + 11) mX12_live 0 [some (.ref (o_ad X a0)), some (.int x1), none] [] μ0 (o_QI q) := by
  unfold fX12_live at h
  refine s_iload_n (i := 1) dX12_live_0 rfl rfl ?_
  refine s_i2l dX12_live_1 ?_
  refine s_lconst (v := 0) dX12_live_2 rfl ?_
  refine s_ldc2 (v := 9999) w_9_109 dX12_live_3 ?_
  refine s_callSz (C := mX12_isFrom) (As := [.long x1.toInt64, .long (0 : Int64), .long (9999 : Int64)]) (rest := []) (L0 := [some (.long x1.toInt64), none, some (.long (0 : Int64)), none, some (.long (9999 : Int64)), none]) clX12_348 dX12_live_6 rfl rfl (Nat.le_of_ble_eq_true rfl) (Nat.le_of_ble_eq_true rfl) (dnX12_isFrom hX  (o_bdp h)) (fun r1 μ1 zr1 h => ?_)
  refine s_if_ne (tgt := 18) dX12_live_9 rfl (fun c1 => ?_) (fun c1 => ?_)
  · have h := o_if_f c1 h
    refine s_aload_n (i := 0) dX12_live_18 rfl rfl ?_
    refine s_getR hX h0 flX12_7 rfl dX12_live_19 (fun (g1 : o_is X (o_rf X a0 0) (.inr (0, 3756))) => ?_)
    refine s_bipush dX12_live_22 kB_12 ?_
    refine s_ialdK g1 ⟨by decide, by decide⟩ kN_12 dX12_live_24 ?_
    refine s_iconst dX12_live_25 kI_m1 ?_
    refine s_icmp_ne (tgt := 36) dX12_live_26 rfl (fun c1 => ?_) (fun c1 => ?_)
    · have h := o_if_f c1 h
      refine s_aload_n (i := 0) dX12_live_36 rfl rfl ?_
      refine s_iload_n (i := 1) dX12_live_37 rfl rfl ?_
      refine s_callVu (C := mX12_lives) (As := [.int x1]) (rest := []) (L0 := [some (.ref (o_ad X a0)), some (.int x1), none, none]) hX h0 clX12_482 dX12_live_38 rfl rfl (Nat.le_of_ble_eq_true rfl) (Nat.le_of_ble_eq_true rfl) (dnX12_lives hX h0 (o_bdp h)) (fun _u μ2 h => ?_)
      refine s_iconst dX12_live_41 kI_0 ?_
      refine s_istore_n (i := 2) dX12_live_42 rfl (Nat.le_of_ble_eq_true rfl) rfl ?_
      refine s_mask [true, false, true] (L' := [some (.ref (o_ad X a0)), none, some (.int 0)]) rfl ?_
      refine o_lp_ev (fun τ43 => [some (.ref (o_ad X a0)), none, some (.int τ43)]) (fun τ43 μ _K h kv ke43 => dnX12_live_s43 hX h0 h kv (fun τ43 μ3 h => ?_)) o_fuel 0 μ2 (o_bdp h)
      · have h := o_if_t rfl (ke43 (66, τ43) μ3 (o_ne rfl) h)
        refine s_aload_n (i := 0) dX12_live_66 rfl rfl ?_
        refine s_iconst dX12_live_67 kI_1 ?_
        refine s_putZ hX h0 fwX12_485 rfl (Or.inr rfl) dX12_live_68 (o_gen h (fun μ4 h => ?_))
        refine s_aload_n (i := 0) dX12_live_71 rfl rfl ?_
        refine s_aload_n (i := 0) dX12_live_72 rfl rfl ?_
        refine s_getI h0 flX12_468 rfl dX12_live_73 ?_
        refine s_callVi (C := mX12_gives) (As := [.int (μ4.1 a0 33)]) (rest := []) (L0 := [some (.ref (o_ad X a0)), some (.int (μ4.1 a0 33))]) hX h0 clX12_91 dX12_live_76 rfl rfl (Nat.le_of_ble_eq_true rfl) (Nat.le_of_ble_eq_true rfl) (dnX12_gives hX h0 (o_bdp h)) (fun r2 μ5 h => ?_)
        exact s_ireturn rfl dX12_live_79 ⟨_, rfl, o_ret h⟩
    · have h := o_if_t c1 h
      refine s_aload_n (i := 0) dX12_live_29 rfl rfl ?_
      refine s_bipush dX12_live_30 kB_6 ?_
      refine s_callVi (C := mX12_refuse) (As := [.int 6]) (rest := []) (L0 := [some (.ref (o_ad X a0)), some (.int 6)]) hX h0 clX12_87 dX12_live_32 rfl rfl (Nat.le_of_ble_eq_true rfl) (Nat.le_of_ble_eq_true rfl) (dnX12_refuse hX h0 (o_bdp h)) (fun r3 μ6 h => ?_)
      exact s_ireturn rfl dX12_live_35 ⟨_, rfl, o_ret h⟩
  · have h := o_if_t c1 h
    refine s_aload_n (i := 0) dX12_live_12 rfl rfl ?_
    refine s_iconst dX12_live_13 kI_1 ?_
    refine s_callVi (C := mX12_refuse) (As := [.int 1]) (rest := []) (L0 := [some (.ref (o_ad X a0)), some (.int 1)]) hX h0 clX12_87 dX12_live_14 rfl rfl (Nat.le_of_ble_eq_true rfl) (Nat.le_of_ble_eq_true rfl) (dnX12_refuse hX h0 (o_bdp h)) (fun r4 μ7 h => ?_)
    exact s_ireturn rfl dX12_live_17 ⟨_, rfl, o_ret h⟩
theorem dX12_lived_0 : decode cX12_lived 0 = .ok (.iload_n 1, 1) := by decide +kernel
theorem dX12_lived_1 : decode cX12_lived 1 = .ok (.ifCond .lt 8, 3) := by decide +kernel
theorem dX12_lived_4 : decode cX12_lived 4 = .ok (.iload_n 1, 1) := by decide +kernel
theorem dX12_lived_5 : decode cX12_lived 5 = .ok (.iconst 4, 1) := by decide +kernel
theorem dX12_lived_6 : decode cX12_lived 6 = .ok (.if_icmp .le 11, 3) := by decide +kernel
theorem dX12_lived_9 : decode cX12_lived 9 = .ok (.aload_n 0, 1) := by decide +kernel
theorem dX12_lived_10 : decode cX12_lived 10 = .ok (.iconst 1, 1) := by decide +kernel
theorem dX12_lived_11 : decode cX12_lived 11 = .ok (.invokevirtual 87, 3) := by decide +kernel
theorem dX12_lived_14 : decode cX12_lived 14 = .ok (.goto 29, 3) := by decide +kernel
theorem dX12_lived_17 : decode cX12_lived 17 = .ok (.aload_n 0, 1) := by decide +kernel
theorem dX12_lived_18 : decode cX12_lived 18 = .ok (.getfield 485, 3) := by decide +kernel
theorem dX12_lived_21 : decode cX12_lived 21 = .ok (.ifCond .eq 16, 3) := by decide +kernel
theorem dX12_lived_24 : decode cX12_lived 24 = .ok (.aload_n 0, 1) := by decide +kernel
theorem dX12_lived_25 : decode cX12_lived 25 = .ok (.aload_n 0, 1) := by decide +kernel
theorem dX12_lived_26 : decode cX12_lived 26 = .ok (.getfield 74, 3) := by decide +kernel
theorem dX12_lived_29 : decode cX12_lived 29 = .ok (.iload_n 1, 1) := by decide +kernel
theorem dX12_lived_30 : decode cX12_lived 30 = .ok (.iaload, 1) := by decide +kernel
theorem dX12_lived_31 : decode cX12_lived 31 = .ok (.invokevirtual 91, 3) := by decide +kernel
theorem dX12_lived_34 : decode cX12_lived 34 = .ok (.goto 9, 3) := by decide +kernel
theorem dX12_lived_37 : decode cX12_lived 37 = .ok (.aload_n 0, 1) := by decide +kernel
theorem dX12_lived_38 : decode cX12_lived 38 = .ok (.bipush 6, 2) := by decide +kernel
theorem dX12_lived_40 : decode cX12_lived 40 = .ok (.invokevirtual 87, 3) := by decide +kernel
theorem dX12_lived_43 : decode cX12_lived 43 = .ok (.ireturn, 1) := by decide +kernel
noncomputable def fX12_lived_j9 (rf : Nat → Nat → Nat) (a0 : Nat) (μ0 : o_Mem) : Option (Int32 × o_Mem) :=
  o_bd (fX12_refuse rf a0 1 μ0) fun r1 μ1 =>
  some (r1, μ1)
noncomputable def fX12_lived (rf : Nat → Nat → Nat) (a0 : Nat) (x1 : Int32) (μ0 : o_Mem) : Option (Int32 × o_Mem) :=
  if x1 < 0 then (
    fX12_lived_j9 rf a0 μ0)
  else (
    if x1 ≤ 4 then (
      if (μ0.1 a0 37) = 0 then (
        o_bd (fX12_refuse rf a0 6 μ0) fun r1 μ1 =>
        some (r1, μ1))
      else (
        o_ck (0 ≤ (x1).toInt ∧ (x1).toInt < 5) <|
        o_bd (fX12_gives rf a0 (μ0.1 (rf a0 36) x1.toNatClampNeg) μ0) fun r2 μ2 =>
        some (r2, μ2)))
    else (
      fX12_lived_j9 rf a0 μ0))
set_option maxRecDepth 20000 in
theorem dnX12_lived_j9 {X : o_Cx} (hX : o_ok X) {d : Nat} {a0 : Nat} {μ0 : o_Mem} {q : Int32 → o_Mem → Prop} (h0 : o_is X a0 (.inl 12)) (h : o_Post (fX12_lived_j9 (o_rf X) a0 μ0) q) : o_Ev X (d + 1) mX12_lived 9 [some (.ref (o_ad X a0)), none] [] μ0 (o_QI q) := by
  unfold fX12_lived_j9 at h
  refine s_aload_n (i := 0) dX12_lived_9 rfl rfl ?_
  refine s_iconst dX12_lived_10 kI_1 ?_
  refine s_callVi (C := mX12_refuse) (As := [.int 1]) (rest := []) (L0 := [some (.ref (o_ad X a0)), some (.int 1)]) hX h0 clX12_87 dX12_lived_11 rfl rfl (Nat.le_of_ble_eq_true rfl) (Nat.le_of_ble_eq_true rfl) (dnX12_refuse hX h0 (o_bdp h)) (fun r1 μ1 h => ?_)
  refine s_goto (tgt := 43) dX12_lived_14 rfl ?_
  exact s_ireturn rfl dX12_lived_43 ⟨_, rfl, o_ret h⟩
set_option maxRecDepth 20000 in
theorem dnX12_lived {X : o_Cx} (hX : o_ok X) {d : Nat} {a0 : Nat} {x1 : Int32} {μ0 : o_Mem} {q : Int32 → o_Mem → Prop} (h0 : o_is X a0 (.inl 12)) (h : o_Post (fX12_lived (o_rf X) a0 x1 μ0) q) : o_Ev X (d + 1) mX12_lived 0 [some (.ref (o_ad X a0)), some (.int x1)] [] μ0 (o_QI q) := by
  unfold fX12_lived at h
  refine s_iload_n (i := 1) dX12_lived_0 rfl rfl ?_
  refine s_if_lt (tgt := 9) dX12_lived_1 rfl (fun c1 => ?_) (fun c1 => ?_)
  · have h := o_if_t c1 h
    refine s_mask [true, false] (L' := [some (.ref (o_ad X a0)), none]) rfl ?_
    exact dnX12_lived_j9 hX h0 h
  · have h := o_if_f c1 h
    refine s_iload_n (i := 1) dX12_lived_4 rfl rfl ?_
    refine s_iconst dX12_lived_5 kI_4 ?_
    refine s_icmp_le (tgt := 17) dX12_lived_6 rfl (fun c1 => ?_) (fun c1 => ?_)
    · have h := o_if_t c1 h
      refine s_aload_n (i := 0) dX12_lived_17 rfl rfl ?_
      refine s_getI h0 flX12_485 rfl dX12_lived_18 ?_
      refine s_if_eq (tgt := 37) dX12_lived_21 rfl (fun c1 => ?_) (fun c1 => ?_)
      · have h := o_if_t c1 h
        refine s_aload_n (i := 0) dX12_lived_37 rfl rfl ?_
        refine s_bipush dX12_lived_38 kB_6 ?_
        refine s_callVi (C := mX12_refuse) (As := [.int 6]) (rest := []) (L0 := [some (.ref (o_ad X a0)), some (.int 6)]) hX h0 clX12_87 dX12_lived_40 rfl rfl (Nat.le_of_ble_eq_true rfl) (Nat.le_of_ble_eq_true rfl) (dnX12_refuse hX h0 (o_bdp h)) (fun r1 μ1 h => ?_)
        exact s_ireturn rfl dX12_lived_43 ⟨_, rfl, o_ret h⟩
      · have h := o_if_f c1 h
        refine s_aload_n (i := 0) dX12_lived_24 rfl rfl ?_
        refine s_aload_n (i := 0) dX12_lived_25 rfl rfl ?_
        refine s_getR hX h0 flX12_74 rfl dX12_lived_26 (fun (g1 : o_is X (o_rf X a0 36) (.inr (0, 5))) => ?_)
        refine s_iload_n (i := 1) dX12_lived_29 rfl rfl ?_
        have hc := o_ck_c h
        have h := o_ck_k h
        refine s_ialdK g1 hc rfl dX12_lived_30 ?_
        refine s_callVi (C := mX12_gives) (As := [.int (μ0.1 (o_rf X a0 36) x1.toNatClampNeg)]) (rest := []) (L0 := [some (.ref (o_ad X a0)), some (.int (μ0.1 (o_rf X a0 36) x1.toNatClampNeg))]) hX h0 clX12_91 dX12_lived_31 rfl rfl (Nat.le_of_ble_eq_true rfl) (Nat.le_of_ble_eq_true rfl) (dnX12_gives hX h0 (o_bdp h)) (fun r2 μ2 h => ?_)
        refine s_goto (tgt := 43) dX12_lived_34 rfl ?_
        exact s_ireturn rfl dX12_lived_43 ⟨_, rfl, o_ret h⟩
    · have h := o_if_f c1 h
      refine s_mask [true, false] (L' := [some (.ref (o_ad X a0)), none]) rfl ?_
      exact dnX12_lived_j9 hX h0 h
theorem dX12_mean_0 : decode cX12_mean 0 = .ok (.iload_n 1, 1) := by decide +kernel
theorem dX12_mean_1 : decode cX12_mean 1 = .ok (.i2l, 1) := by decide +kernel
theorem dX12_mean_2 : decode cX12_mean 2 = .ok (.lconst 0, 1) := by decide +kernel
theorem dX12_mean_3 : decode cX12_mean 3 = .ok (.ldc2_w 480, 3) := by decide +kernel
theorem dX12_mean_6 : decode cX12_mean 6 = .ok (.invokestatic 348, 3) := by decide +kernel
theorem dX12_mean_9 : decode cX12_mean 9 = .ok (.ifCond .eq 26, 3) := by decide +kernel
theorem dX12_mean_12 : decode cX12_mean 12 = .ok (.iload_n 2, 1) := by decide +kernel
theorem dX12_mean_13 : decode cX12_mean 13 = .ok (.i2l, 1) := by decide +kernel
theorem dX12_mean_14 : decode cX12_mean 14 = .ok (.lconst 1, 1) := by decide +kernel
theorem dX12_mean_15 : decode cX12_mean 15 = .ok (.ldc2_w 488, 3) := by decide +kernel
theorem dX12_mean_18 : decode cX12_mean 18 = .ok (.invokestatic 348, 3) := by decide +kernel
theorem dX12_mean_21 : decode cX12_mean 21 = .ok (.ifCond .eq 14, 3) := by decide +kernel
theorem dX12_mean_24 : decode cX12_mean 24 = .ok (.iload_n 1, 1) := by decide +kernel
theorem dX12_mean_25 : decode cX12_mean 25 = .ok (.iload_n 2, 1) := by decide +kernel
theorem dX12_mean_26 : decode cX12_mean 26 = .ok (.iadd, 1) := by decide +kernel
theorem dX12_mean_27 : decode cX12_mean 27 = .ok (.iconst 1, 1) := by decide +kernel
theorem dX12_mean_28 : decode cX12_mean 28 = .ok (.isub, 1) := by decide +kernel
theorem dX12_mean_29 : decode cX12_mean 29 = .ok (.sipush 9999, 3) := by decide +kernel
theorem dX12_mean_32 : decode cX12_mean 32 = .ok (.if_icmp .le 9, 3) := by decide +kernel
theorem dX12_mean_35 : decode cX12_mean 35 = .ok (.aload_n 0, 1) := by decide +kernel
theorem dX12_mean_36 : decode cX12_mean 36 = .ok (.iconst 1, 1) := by decide +kernel
theorem dX12_mean_37 : decode cX12_mean 37 = .ok (.invokevirtual 94, 3) := by decide +kernel
theorem dX12_mean_40 : decode cX12_mean 40 = .ok (.ireturn, 1) := by decide +kernel
theorem dX12_mean_41 : decode cX12_mean 41 = .ok (.aload_n 0, 1) := by decide +kernel
theorem dX12_mean_42 : decode cX12_mean 42 = .ok (.getfield 7, 3) := by decide +kernel
theorem dX12_mean_45 : decode cX12_mean 45 = .ok (.bipush 12, 2) := by decide +kernel
theorem dX12_mean_47 : decode cX12_mean 47 = .ok (.iaload, 1) := by decide +kernel
theorem dX12_mean_48 : decode cX12_mean 48 = .ok (.iconst (-1), 1) := by decide +kernel
theorem dX12_mean_49 : decode cX12_mean 49 = .ok (.if_icmp .ne 10, 3) := by decide +kernel
theorem dX12_mean_52 : decode cX12_mean 52 = .ok (.aload_n 0, 1) := by decide +kernel
theorem dX12_mean_53 : decode cX12_mean 53 = .ok (.bipush 6, 2) := by decide +kernel
theorem dX12_mean_55 : decode cX12_mean 55 = .ok (.invokevirtual 94, 3) := by decide +kernel
theorem dX12_mean_58 : decode cX12_mean 58 = .ok (.ireturn, 1) := by decide +kernel
theorem dX12_mean_59 : decode cX12_mean 59 = .ok (.iconst 0, 1) := by decide +kernel
theorem dX12_mean_60 : decode cX12_mean 60 = .ok (.istore_n 3, 1) := by decide +kernel
theorem dX12_mean_61 : decode cX12_mean 61 = .ok (.iload_n 3, 1) := by decide +kernel
theorem dX12_mean_62 : decode cX12_mean 62 = .ok (.sipush 259, 3) := by decide +kernel
theorem dX12_mean_65 : decode cX12_mean 65 = .ok (.if_icmp .ge 25, 3) := by decide +kernel
theorem dX12_mean_68 : decode cX12_mean 68 = .ok (.aload_n 0, 1) := by decide +kernel
theorem dX12_mean_69 : decode cX12_mean 69 = .ok (.getfield 7, 3) := by decide +kernel
theorem dX12_mean_72 : decode cX12_mean 72 = .ok (.sipush 3130, 3) := by decide +kernel
theorem dX12_mean_75 : decode cX12_mean 75 = .ok (.iload_n 3, 1) := by decide +kernel
theorem dX12_mean_76 : decode cX12_mean 76 = .ok (.iadd, 1) := by decide +kernel
theorem dX12_mean_77 : decode cX12_mean 77 = .ok (.aload_n 0, 1) := by decide +kernel
theorem dX12_mean_78 : decode cX12_mean 78 = .ok (.getfield 7, 3) := by decide +kernel
theorem dX12_mean_81 : decode cX12_mean 81 = .ok (.iload_n 3, 1) := by decide +kernel
theorem dX12_mean_82 : decode cX12_mean 82 = .ok (.iaload, 1) := by decide +kernel
theorem dX12_mean_83 : decode cX12_mean 83 = .ok (.iastore, 1) := by decide +kernel
theorem dX12_mean_84 : decode cX12_mean 84 = .ok (.iinc 3 1, 3) := by decide +kernel
theorem dX12_mean_87 : decode cX12_mean 87 = .ok (.goto (-26), 3) := by decide +kernel
theorem dX12_mean_90 : decode cX12_mean 90 = .ok (.lconst 0, 1) := by decide +kernel
theorem dX12_mean_91 : decode cX12_mean 91 = .ok (.lstore_n 3, 1) := by decide +kernel
theorem dX12_mean_92 : decode cX12_mean 92 = .ok (.iconst 0, 1) := by decide +kernel
theorem dX12_mean_93 : decode cX12_mean 93 = .ok (.istore 5, 2) := by decide +kernel
theorem dX12_mean_95 : decode cX12_mean 95 = .ok (.iload 5, 2) := by decide +kernel
theorem dX12_mean_97 : decode cX12_mean 97 = .ok (.iload_n 2, 1) := by decide +kernel
theorem dX12_mean_98 : decode cX12_mean 98 = .ok (.if_icmp .ge 63, 3) := by decide +kernel
theorem dX12_mean_101 : decode cX12_mean 101 = .ok (.aload_n 0, 1) := by decide +kernel
theorem dX12_mean_102 : decode cX12_mean 102 = .ok (.iload_n 1, 1) := by decide +kernel
theorem dX12_mean_103 : decode cX12_mean 103 = .ok (.iload 5, 2) := by decide +kernel
theorem dX12_mean_105 : decode cX12_mean 105 = .ok (.iadd, 1) := by decide +kernel
theorem dX12_mean_106 : decode cX12_mean 106 = .ok (.invokevirtual 482, 3) := by decide +kernel
theorem dX12_mean_109 : decode cX12_mean 109 = .ok (.lload_n 3, 1) := by decide +kernel
theorem dX12_mean_110 : decode cX12_mean 110 = .ok (.aload_n 0, 1) := by decide +kernel
theorem dX12_mean_111 : decode cX12_mean 111 = .ok (.getfield 7, 3) := by decide +kernel
theorem dX12_mean_114 : decode cX12_mean 114 = .ok (.bipush 11, 2) := by decide +kernel
theorem dX12_mean_116 : decode cX12_mean 116 = .ok (.iaload, 1) := by decide +kernel
theorem dX12_mean_117 : decode cX12_mean 117 = .ok (.i2l, 1) := by decide +kernel
theorem dX12_mean_118 : decode cX12_mean 118 = .ok (.ladd, 1) := by decide +kernel
theorem dX12_mean_119 : decode cX12_mean 119 = .ok (.lstore_n 3, 1) := by decide +kernel
theorem dX12_mean_120 : decode cX12_mean 120 = .ok (.iconst 0, 1) := by decide +kernel
theorem dX12_mean_121 : decode cX12_mean 121 = .ok (.istore 6, 2) := by decide +kernel
theorem dX12_mean_123 : decode cX12_mean 123 = .ok (.iload 6, 2) := by decide +kernel
theorem dX12_mean_125 : decode cX12_mean 125 = .ok (.sipush 259, 3) := by decide +kernel
theorem dX12_mean_128 : decode cX12_mean 128 = .ok (.if_icmp .ge 27, 3) := by decide +kernel
theorem dX12_mean_131 : decode cX12_mean 131 = .ok (.aload_n 0, 1) := by decide +kernel
theorem dX12_mean_132 : decode cX12_mean 132 = .ok (.getfield 7, 3) := by decide +kernel
theorem dX12_mean_135 : decode cX12_mean 135 = .ok (.iload 6, 2) := by decide +kernel
theorem dX12_mean_137 : decode cX12_mean 137 = .ok (.aload_n 0, 1) := by decide +kernel
theorem dX12_mean_138 : decode cX12_mean 138 = .ok (.getfield 7, 3) := by decide +kernel
theorem dX12_mean_141 : decode cX12_mean 141 = .ok (.sipush 3130, 3) := by decide +kernel
theorem dX12_mean_144 : decode cX12_mean 144 = .ok (.iload 6, 2) := by decide +kernel
theorem dX12_mean_146 : decode cX12_mean 146 = .ok (.iadd, 1) := by decide +kernel
theorem dX12_mean_147 : decode cX12_mean 147 = .ok (.iaload, 1) := by decide +kernel
theorem dX12_mean_148 : decode cX12_mean 148 = .ok (.iastore, 1) := by decide +kernel
theorem dX12_mean_149 : decode cX12_mean 149 = .ok (.iinc 6 1, 3) := by decide +kernel
theorem dX12_mean_152 : decode cX12_mean 152 = .ok (.goto (-29), 3) := by decide +kernel
theorem dX12_mean_155 : decode cX12_mean 155 = .ok (.iinc 5 1, 3) := by decide +kernel
theorem dX12_mean_158 : decode cX12_mean 158 = .ok (.goto (-63), 3) := by decide +kernel
theorem dX12_mean_161 : decode cX12_mean 161 = .ok (.aload_n 0, 1) := by decide +kernel
theorem dX12_mean_162 : decode cX12_mean 162 = .ok (.lload_n 3, 1) := by decide +kernel
theorem dX12_mean_163 : decode cX12_mean 163 = .ok (.iload_n 2, 1) := by decide +kernel
theorem dX12_mean_164 : decode cX12_mean 164 = .ok (.i2l, 1) := by decide +kernel
theorem dX12_mean_165 : decode cX12_mean 165 = .ok (.invokevirtual 359, 3) := by decide +kernel
theorem dX12_mean_168 : decode cX12_mean 168 = .ok (.ireturn, 1) := by decide +kernel
noncomputable def fX12_mean_j35 (rf : Nat → Nat → Nat) (a0 : Nat) (μ0 : o_Mem) : Option (Int32 × o_Mem) :=
  o_bd (fX12_is rf a0 1 μ0) fun r1 μ1 =>
  some (r1, μ1)
noncomputable def fX12_mean_s61 (rf : Nat → Nat → Nat) (a0 : Nat) (x1 : Int32) (x2 : Int32) (τ61 : Int32) (μ0 : o_Mem) : Option ((Nat × (Int32)) × o_Mem) :=
  if 259 ≤ τ61 then (
    some ((90, 0), μ0))
  else (
    o_ck (0 ≤ (τ61).toInt ∧ (τ61).toInt < 3756) <|
    o_ck (0 ≤ ((3130 + τ61)).toInt ∧ ((3130 + τ61)).toInt < 3756) <|
    o_seq (o_wI μ0 (rf a0 0) (((3130 + τ61)).toNatClampNeg) (μ0.1 (rf a0 0) τ61.toNatClampNeg)) fun μ1 =>
    some ((61, (τ61 + 1)), μ1))
noncomputable def fX12_mean_s123 (rf : Nat → Nat → Nat) (a0 : Nat) (x1 : Int32) (x2 : Int32) (x3 : Int64) (x5 : Int32) (τ123 : Int32) (μ0 : o_Mem) : Option ((Nat × (Int32)) × o_Mem) :=
  if 259 ≤ τ123 then (
    some ((155, 0), μ0))
  else (
    o_ck (0 ≤ ((3130 + τ123)).toInt ∧ ((3130 + τ123)).toInt < 3756) <|
    o_ck (0 ≤ (τ123).toInt ∧ (τ123).toInt < 3756) <|
    o_seq (o_wI μ0 (rf a0 0) τ123.toNatClampNeg (μ0.1 (rf a0 0) ((3130 + τ123)).toNatClampNeg)) fun μ1 =>
    some ((123, (τ123 + 1)), μ1))
noncomputable def fX12_mean_s95 (rf : Nat → Nat → Nat) (a0 : Nat) (x1 : Int32) (x2 : Int32) (τ95 : Int64 × Int32) (μ0 : o_Mem) : Option ((Nat × (Int64 × Int32)) × o_Mem) :=
  if x2 ≤ τ95.2 then (
    some ((161, (τ95.1, 0)), μ0))
  else (
    o_bd (fX12_lives rf a0 (x1 + τ95.2) μ0) fun _u μ1 =>
    o_bd (o_lp 123 (fX12_mean_s123 rf a0 x1 x2 (τ95.1 + (μ1.1 (rf a0 0) 11).toInt64) τ95.2) o_fuel (0 : Int32) μ1) fun ex2 μ2 =>
    if ex2.1 = 155 then (
      some ((95, ((τ95.1 + (μ1.1 (rf a0 0) 11).toInt64), (τ95.2 + 1))), μ2))
    else
      none)
noncomputable def fX12_mean (rf : Nat → Nat → Nat) (a0 : Nat) (x1 : Int32) (x2 : Int32) (μ0 : o_Mem) : Option (Int32 × o_Mem) :=
  o_bd (fX12_isFrom rf x1.toInt64 (0 : Int64) (9999 : Int64) μ0) fun r1 μ1 =>
  if r1 = 0 then (
    fX12_mean_j35 rf a0 μ1)
  else (
    o_bd (fX12_isFrom rf x2.toInt64 (1 : Int64) (20 : Int64) μ1) fun r2 μ2 =>
    if r2 = 0 then (
      fX12_mean_j35 rf a0 μ2)
    else (
      if ((x1 + x2) - 1) ≤ 9999 then (
        if (μ2.1 (rf a0 0) 12) = (-1) then (
          o_bd (fX12_is rf a0 6 μ2) fun r4 μ6 =>
          some (r4, μ6))
        else (
          o_bd (o_lp 61 (fX12_mean_s61 rf a0 x1 x2) o_fuel (0 : Int32) μ2) fun ex3 μ3 =>
          if ex3.1 = 90 then (
            o_bd (o_lp 95 (fX12_mean_s95 rf a0 x1 x2) o_fuel ((0 : Int64), 0) μ3) fun ex4 μ4 =>
            if ex4.1 = 161 then (
              o_bd (fX12_tellsBy rf a0 ex4.2.1 x2.toInt64 μ4) fun r3 μ5 =>
              some (r3, μ5))
            else
              none)
          else
            none))
      else (
        fX12_mean_j35 rf a0 μ2)))
set_option maxRecDepth 20000 in
theorem dnX12_mean_j35 {X : o_Cx} (hX : o_ok X) {d : Nat} {a0 : Nat} {μ0 : o_Mem} {q : Int32 → o_Mem → Prop} (h0 : o_is X a0 (.inl 12)) (h : o_Post (fX12_mean_j35 (o_rf X) a0 μ0) q) : o_Ev X (d + 11) mX12_mean 35 [some (.ref (o_ad X a0)), none, none, none, none, none, none] [] μ0 (o_QZ q) := by
  unfold fX12_mean_j35 at h
  refine s_aload_n (i := 0) dX12_mean_35 rfl rfl ?_
  refine s_iconst dX12_mean_36 kI_1 ?_
  refine s_callVz (C := mX12_is) (As := [.int 1]) (rest := []) (L0 := [some (.ref (o_ad X a0)), some (.int 1)]) hX h0 clX12_94 dX12_mean_37 rfl rfl (Nat.le_of_ble_eq_true rfl) (Nat.le_of_ble_eq_true rfl) (dnX12_is hX h0 (o_bdp h)) (fun r1 μ1 zr1 h => ?_)
  exact s_zreturn rfl zr1 dX12_mean_40 ⟨_, rfl, zr1, o_ret h⟩
set_option maxRecDepth 20000 in
theorem dnX12_mean_s61 {X : o_Cx} (hX : o_ok X) {d : Nat} {a0 : Nat} {x1 : Int32} {x2 : Int32} {τ61 : Int32} {μ0 : o_Mem} {K : (Nat × (Int32)) → o_Mem → Prop} {Q : Option Value → o_Mem → Prop} (h0 : o_is X a0 (.inl 12)) (h : o_Post (fX12_mean_s61 (o_rf X) a0 x1 x2 τ61 μ0) K) (kh : ∀ (τ61 : Int32) (μ : o_Mem), K (61, τ61) μ → o_Ev X (d + 11) mX12_mean 61 [some (.ref (o_ad X a0)), some (.int x1), some (.int x2), some (.int τ61), none, none, none] [] μ Q) (k90 : ∀ (τ61 : Int32) (μ : o_Mem), K (90, τ61) μ → o_Ev X (d + 11) mX12_mean 90 [some (.ref (o_ad X a0)), some (.int x1), some (.int x2), none, none, none, none] [] μ Q) : o_Ev X (d + 11) mX12_mean 61 [some (.ref (o_ad X a0)), some (.int x1), some (.int x2), some (.int τ61), none, none, none] [] μ0 Q := by
  unfold fX12_mean_s61 at h
  refine s_iload_n (i := 3) dX12_mean_61 rfl rfl ?_
  refine s_sipush dX12_mean_62 kS_259 ?_
  refine s_icmp_ge (tgt := 90) dX12_mean_65 rfl (fun c1 => ?_) (fun c1 => ?_)
  · have h := o_if_t c1 h
    refine s_mask [true, true, true, false, false, false, false] (L' := [some (.ref (o_ad X a0)), some (.int x1), some (.int x2), none, none, none, none]) rfl ?_
    exact k90 0 _ (o_ret h)
  · have h := o_if_f c1 h
    refine s_aload_n (i := 0) dX12_mean_68 rfl rfl ?_
    refine s_getR hX h0 flX12_7 rfl dX12_mean_69 (fun (g1 : o_is X (o_rf X a0 0) (.inr (0, 3756))) => ?_)
    refine s_sipush dX12_mean_72 kS_3130 ?_
    refine s_iload_n (i := 3) dX12_mean_75 rfl rfl ?_
    refine s_iadd dX12_mean_76 ?_
    refine s_aload_n (i := 0) dX12_mean_77 rfl rfl ?_
    refine s_getR hX h0 flX12_7 rfl dX12_mean_78 (fun (g2 : o_is X (o_rf X a0 0) (.inr (0, 3756))) => ?_)
    refine s_iload_n (i := 3) dX12_mean_81 rfl rfl ?_
    have hc := o_ck_c h
    have h := o_ck_k h
    refine s_ialdK g2 hc rfl dX12_mean_82 ?_
    have hc := o_ck_c h
    have h := o_ck_k h
    refine s_iastK hX g1 hc rfl dX12_mean_83 (o_gen h (fun μ1 h => ?_))
    refine s_iinc (v := (τ61 + 1)) dX12_mean_84 rfl rfl (Nat.le_of_ble_eq_true rfl) rfl ?_
    refine s_goto (tgt := 61) dX12_mean_87 rfl ?_
    refine s_mask [true, true, true, true, false, false, false] (L' := [some (.ref (o_ad X a0)), some (.int x1), some (.int x2), some (.int (τ61 + 1)), none, none, none]) rfl ?_
    exact kh (τ61 + 1) _ (o_ret h)
set_option maxRecDepth 20000 in
theorem dnX12_mean_s123 {X : o_Cx} (hX : o_ok X) {d : Nat} {a0 : Nat} {x1 : Int32} {x2 : Int32} {x3 : Int64} {x5 : Int32} {τ123 : Int32} {μ0 : o_Mem} {K : (Nat × (Int32)) → o_Mem → Prop} {Q : Option Value → o_Mem → Prop} (h0 : o_is X a0 (.inl 12)) (h : o_Post (fX12_mean_s123 (o_rf X) a0 x1 x2 x3 x5 τ123 μ0) K) (kh : ∀ (τ123 : Int32) (μ : o_Mem), K (123, τ123) μ → o_Ev X (d + 11) mX12_mean 123 [some (.ref (o_ad X a0)), some (.int x1), some (.int x2), some (.long x3), none, some (.int x5), some (.int τ123)] [] μ Q) (k155 : ∀ (τ123 : Int32) (μ : o_Mem), K (155, τ123) μ → o_Ev X (d + 11) mX12_mean 155 [some (.ref (o_ad X a0)), some (.int x1), some (.int x2), some (.long x3), none, some (.int x5), none] [] μ Q) : o_Ev X (d + 11) mX12_mean 123 [some (.ref (o_ad X a0)), some (.int x1), some (.int x2), some (.long x3), none, some (.int x5), some (.int τ123)] [] μ0 Q := by
  unfold fX12_mean_s123 at h
  refine s_iload dX12_mean_123 rfl ?_
  refine s_sipush dX12_mean_125 kS_259 ?_
  refine s_icmp_ge (tgt := 155) dX12_mean_128 rfl (fun c1 => ?_) (fun c1 => ?_)
  · have h := o_if_t c1 h
    refine s_mask [true, true, true, true, false, true, false] (L' := [some (.ref (o_ad X a0)), some (.int x1), some (.int x2), some (.long x3), none, some (.int x5), none]) rfl ?_
    exact k155 0 _ (o_ret h)
  · have h := o_if_f c1 h
    refine s_aload_n (i := 0) dX12_mean_131 rfl rfl ?_
    refine s_getR hX h0 flX12_7 rfl dX12_mean_132 (fun (g1 : o_is X (o_rf X a0 0) (.inr (0, 3756))) => ?_)
    refine s_iload dX12_mean_135 rfl ?_
    refine s_aload_n (i := 0) dX12_mean_137 rfl rfl ?_
    refine s_getR hX h0 flX12_7 rfl dX12_mean_138 (fun (g2 : o_is X (o_rf X a0 0) (.inr (0, 3756))) => ?_)
    refine s_sipush dX12_mean_141 kS_3130 ?_
    refine s_iload dX12_mean_144 rfl ?_
    refine s_iadd dX12_mean_146 ?_
    have hc := o_ck_c h
    have h := o_ck_k h
    refine s_ialdK g2 hc rfl dX12_mean_147 ?_
    have hc := o_ck_c h
    have h := o_ck_k h
    refine s_iastK hX g1 hc rfl dX12_mean_148 (o_gen h (fun μ1 h => ?_))
    refine s_iinc (v := (τ123 + 1)) dX12_mean_149 rfl rfl (Nat.le_of_ble_eq_true rfl) rfl ?_
    refine s_goto (tgt := 123) dX12_mean_152 rfl ?_
    refine s_mask [true, true, true, true, false, true, true] (L' := [some (.ref (o_ad X a0)), some (.int x1), some (.int x2), some (.long x3), none, some (.int x5), some (.int (τ123 + 1))]) rfl ?_
    exact kh (τ123 + 1) _ (o_ret h)
set_option maxRecDepth 20000 in
theorem dnX12_mean_s95 {X : o_Cx} (hX : o_ok X) {d : Nat} {a0 : Nat} {x1 : Int32} {x2 : Int32} {τ95 : Int64 × Int32} {μ0 : o_Mem} {K : (Nat × (Int64 × Int32)) → o_Mem → Prop} {Q : Option Value → o_Mem → Prop} (h0 : o_is X a0 (.inl 12)) (h : o_Post (fX12_mean_s95 (o_rf X) a0 x1 x2 τ95 μ0) K) (kh : ∀ (τ95 : Int64 × Int32) (μ : o_Mem), K (95, τ95) μ → o_Ev X (d + 11) mX12_mean 95 [some (.ref (o_ad X a0)), some (.int x1), some (.int x2), some (.long τ95.1), none, some (.int τ95.2), none] [] μ Q) (k161 : ∀ (τ95 : Int64 × Int32) (μ : o_Mem), K (161, τ95) μ → o_Ev X (d + 11) mX12_mean 161 [some (.ref (o_ad X a0)), none, some (.int x2), some (.long τ95.1), none, none, none] [] μ Q) : o_Ev X (d + 11) mX12_mean 95 [some (.ref (o_ad X a0)), some (.int x1), some (.int x2), some (.long τ95.1), none, some (.int τ95.2), none] [] μ0 Q := by
  unfold fX12_mean_s95 at h
  refine s_iload dX12_mean_95 rfl ?_
  refine s_iload_n (i := 2) dX12_mean_97 rfl rfl ?_
  refine s_icmp_ge (tgt := 161) dX12_mean_98 rfl (fun c1 => ?_) (fun c1 => ?_)
  · have h := o_if_t c1 h
    refine s_mask [true, false, true, true, false, false, false] (L' := [some (.ref (o_ad X a0)), none, some (.int x2), some (.long τ95.1), none, none, none]) rfl ?_
    exact k161 (τ95.1, 0) _ (o_ret h)
  · have h := o_if_f c1 h
    refine s_aload_n (i := 0) dX12_mean_101 rfl rfl ?_
    refine s_iload_n (i := 1) dX12_mean_102 rfl rfl ?_
    refine s_iload dX12_mean_103 rfl ?_
    refine s_iadd dX12_mean_105 ?_
    refine s_callVu (C := mX12_lives) (As := [.int (x1 + τ95.2)]) (rest := []) (L0 := [some (.ref (o_ad X a0)), some (.int (x1 + τ95.2)), none, none]) hX h0 clX12_482 dX12_mean_106 rfl rfl (Nat.le_of_ble_eq_true rfl) (Nat.le_of_ble_eq_true rfl) (dnX12_lives hX h0 (o_bdp h)) (fun _u μ1 h => ?_)
    refine s_lload_n (i := 3) dX12_mean_109 rfl rfl ?_
    refine s_aload_n (i := 0) dX12_mean_110 rfl rfl ?_
    refine s_getR hX h0 flX12_7 rfl dX12_mean_111 (fun (g1 : o_is X (o_rf X a0 0) (.inr (0, 3756))) => ?_)
    refine s_bipush dX12_mean_114 kB_11 ?_
    refine s_ialdK g1 ⟨by decide, by decide⟩ kN_11 dX12_mean_116 ?_
    refine s_i2l dX12_mean_117 ?_
    refine s_ladd dX12_mean_118 ?_
    refine s_lstore_n (i := 3) dX12_mean_119 rfl (Nat.le_of_ble_eq_true rfl) rfl ?_
    refine s_iconst dX12_mean_120 kI_0 ?_
    refine s_istore dX12_mean_121 (Nat.le_of_ble_eq_true rfl) rfl ?_
    refine s_mask [true, true, true, true, false, true, true] (L' := [some (.ref (o_ad X a0)), some (.int x1), some (.int x2), some (.long (τ95.1 + (μ1.1 (o_rf X a0 0) 11).toInt64)), none, some (.int τ95.2), some (.int 0)]) rfl ?_
    refine o_lp_ev (fun τ123 => [some (.ref (o_ad X a0)), some (.int x1), some (.int x2), some (.long (τ95.1 + (μ1.1 (o_rf X a0 0) 11).toInt64)), none, some (.int τ95.2), some (.int τ123)]) (fun τ123 μ _K h kv ke123 => dnX12_mean_s123 hX h0 h kv (fun τ123 μ2 h => ?_)) o_fuel 0 μ1 (o_bdp h)
    · have h := o_if_t rfl (ke123 (155, τ123) μ2 (o_ne rfl) h)
      refine s_iinc (v := (τ95.2 + 1)) dX12_mean_155 rfl rfl (Nat.le_of_ble_eq_true rfl) rfl ?_
      refine s_goto (tgt := 95) dX12_mean_158 rfl ?_
      refine s_mask [true, true, true, true, false, true, false] (L' := [some (.ref (o_ad X a0)), some (.int x1), some (.int x2), some (.long (τ95.1 + (μ1.1 (o_rf X a0 0) 11).toInt64)), none, some (.int (τ95.2 + 1)), none]) rfl ?_
      exact kh ((τ95.1 + (μ1.1 (o_rf X a0 0) 11).toInt64), (τ95.2 + 1)) _ (o_ret h)
set_option maxRecDepth 20000 in
theorem dnX12_mean {X : o_Cx} (hX : o_ok X) {d : Nat} {a0 : Nat} {x1 : Int32} {x2 : Int32} {μ0 : o_Mem} {q : Int32 → o_Mem → Prop} (h0 : o_is X a0 (.inl 12)) (h : o_Post (fX12_mean (o_rf X) a0 x1 x2 μ0) q) : o_Ev X (d + 11) mX12_mean 0 [some (.ref (o_ad X a0)), some (.int x1), some (.int x2), none, none, none, none] [] μ0 (o_QZ q) := by
  unfold fX12_mean at h
  refine s_iload_n (i := 1) dX12_mean_0 rfl rfl ?_
  refine s_i2l dX12_mean_1 ?_
  refine s_lconst (v := 0) dX12_mean_2 rfl ?_
  refine s_ldc2 (v := 9999) w_9_109 dX12_mean_3 ?_
  refine s_callSz (C := mX12_isFrom) (As := [.long x1.toInt64, .long (0 : Int64), .long (9999 : Int64)]) (rest := []) (L0 := [some (.long x1.toInt64), none, some (.long (0 : Int64)), none, some (.long (9999 : Int64)), none]) clX12_348 dX12_mean_6 rfl rfl (Nat.le_of_ble_eq_true rfl) (Nat.le_of_ble_eq_true rfl) (dnX12_isFrom hX  (o_bdp h)) (fun r1 μ1 zr1 h => ?_)
  refine s_if_eq (tgt := 35) dX12_mean_9 rfl (fun c1 => ?_) (fun c1 => ?_)
  · have h := o_if_t c1 h
    refine s_mask [true, false, false, false, false, false, false] (L' := [some (.ref (o_ad X a0)), none, none, none, none, none, none]) rfl ?_
    exact dnX12_mean_j35 hX h0 h
  · have h := o_if_f c1 h
    refine s_iload_n (i := 2) dX12_mean_12 rfl rfl ?_
    refine s_i2l dX12_mean_13 ?_
    refine s_lconst (v := 1) dX12_mean_14 rfl ?_
    refine s_ldc2 (v := 20) w_9_155 dX12_mean_15 ?_
    refine s_callSz (C := mX12_isFrom) (As := [.long x2.toInt64, .long (1 : Int64), .long (20 : Int64)]) (rest := []) (L0 := [some (.long x2.toInt64), none, some (.long (1 : Int64)), none, some (.long (20 : Int64)), none]) clX12_348 dX12_mean_18 rfl rfl (Nat.le_of_ble_eq_true rfl) (Nat.le_of_ble_eq_true rfl) (dnX12_isFrom hX  (o_bdp h)) (fun r2 μ2 zr2 h => ?_)
    refine s_if_eq (tgt := 35) dX12_mean_21 rfl (fun c1 => ?_) (fun c1 => ?_)
    · have h := o_if_t c1 h
      refine s_mask [true, false, false, false, false, false, false] (L' := [some (.ref (o_ad X a0)), none, none, none, none, none, none]) rfl ?_
      exact dnX12_mean_j35 hX h0 h
    · have h := o_if_f c1 h
      refine s_iload_n (i := 1) dX12_mean_24 rfl rfl ?_
      refine s_iload_n (i := 2) dX12_mean_25 rfl rfl ?_
      refine s_iadd dX12_mean_26 ?_
      refine s_iconst dX12_mean_27 kI_1 ?_
      refine s_isub dX12_mean_28 ?_
      refine s_sipush dX12_mean_29 kS_9999 ?_
      refine s_icmp_le (tgt := 41) dX12_mean_32 rfl (fun c1 => ?_) (fun c1 => ?_)
      · have h := o_if_t c1 h
        refine s_aload_n (i := 0) dX12_mean_41 rfl rfl ?_
        refine s_getR hX h0 flX12_7 rfl dX12_mean_42 (fun (g1 : o_is X (o_rf X a0 0) (.inr (0, 3756))) => ?_)
        refine s_bipush dX12_mean_45 kB_12 ?_
        refine s_ialdK g1 ⟨by decide, by decide⟩ kN_12 dX12_mean_47 ?_
        refine s_iconst dX12_mean_48 kI_m1 ?_
        refine s_icmp_ne (tgt := 59) dX12_mean_49 rfl (fun c1 => ?_) (fun c1 => ?_)
        · have h := o_if_f c1 h
          refine s_iconst dX12_mean_59 kI_0 ?_
          refine s_istore_n (i := 3) dX12_mean_60 rfl (Nat.le_of_ble_eq_true rfl) rfl ?_
          refine s_mask [true, true, true, true, false, false, false] (L' := [some (.ref (o_ad X a0)), some (.int x1), some (.int x2), some (.int 0), none, none, none]) rfl ?_
          refine o_lp_ev (fun τ61 => [some (.ref (o_ad X a0)), some (.int x1), some (.int x2), some (.int τ61), none, none, none]) (fun τ61 μ _K h kv ke61 => dnX12_mean_s61 hX h0 h kv (fun τ61 μ3 h => ?_)) o_fuel 0 μ2 (o_bdp h)
          · have h := o_if_t rfl (ke61 (90, τ61) μ3 (o_ne rfl) h)
            refine s_lconst (v := 0) dX12_mean_90 rfl ?_
            refine s_lstore_n (i := 3) dX12_mean_91 rfl (Nat.le_of_ble_eq_true rfl) rfl ?_
            refine s_iconst dX12_mean_92 kI_0 ?_
            refine s_istore dX12_mean_93 (Nat.le_of_ble_eq_true rfl) rfl ?_
            refine s_mask [true, true, true, true, false, true, false] (L' := [some (.ref (o_ad X a0)), some (.int x1), some (.int x2), some (.long (0 : Int64)), none, some (.int 0), none]) rfl ?_
            refine o_lp_ev (fun τ95 => [some (.ref (o_ad X a0)), some (.int x1), some (.int x2), some (.long τ95.1), none, some (.int τ95.2), none]) (fun τ95 μ _K h kv ke95 => dnX12_mean_s95 hX h0 h kv (fun τ95 μ4 h => ?_)) o_fuel ((0 : Int64), 0) μ3 (o_bdp h)
            · have h := o_if_t rfl (ke95 (161, τ95) μ4 (o_ne rfl) h)
              refine s_aload_n (i := 0) dX12_mean_161 rfl rfl ?_
              refine s_lload_n (i := 3) dX12_mean_162 rfl rfl ?_
              refine s_iload_n (i := 2) dX12_mean_163 rfl rfl ?_
              refine s_i2l dX12_mean_164 ?_
              refine s_callVz (C := mX12_tellsBy) (As := [.long τ95.1, .long x2.toInt64]) (rest := []) (L0 := [some (.ref (o_ad X a0)), some (.long τ95.1), none, some (.long x2.toInt64), none, none, none, none, none, none, none]) hX h0 clX12_359 dX12_mean_165 rfl rfl (Nat.le_of_ble_eq_true rfl) (Nat.le_of_ble_eq_true rfl) (dnX12_tellsBy hX h0 (o_bdp h)) (fun r3 μ5 zr3 h => ?_)
              exact s_zreturn rfl zr3 dX12_mean_168 ⟨_, rfl, zr3, o_ret h⟩
        · have h := o_if_t c1 h
          refine s_aload_n (i := 0) dX12_mean_52 rfl rfl ?_
          refine s_bipush dX12_mean_53 kB_6 ?_
          refine s_callVz (C := mX12_is) (As := [.int 6]) (rest := []) (L0 := [some (.ref (o_ad X a0)), some (.int 6)]) hX h0 clX12_94 dX12_mean_55 rfl rfl (Nat.le_of_ble_eq_true rfl) (Nat.le_of_ble_eq_true rfl) (dnX12_is hX h0 (o_bdp h)) (fun r4 μ6 zr4 h => ?_)
          exact s_zreturn rfl zr4 dX12_mean_58 ⟨_, rfl, zr4, o_ret h⟩
      · have h := o_if_f c1 h
        refine s_mask [true, false, false, false, false, false, false] (L' := [some (.ref (o_ad X a0)), none, none, none, none, none, none]) rfl ?_
        exact dnX12_mean_j35 hX h0 h
