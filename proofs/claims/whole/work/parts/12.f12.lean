theorem dX11_commonDivisor_0 : decode cX11_commonDivisor 0 = .ok (.lload_n 0, 1) := by decide +kernel
theorem dX11_commonDivisor_1 : decode cX11_commonDivisor 1 = .ok (.lstore 4, 2) := by decide +kernel
theorem dX11_commonDivisor_3 : decode cX11_commonDivisor 3 = .ok (.lload_n 2, 1) := by decide +kernel
theorem dX11_commonDivisor_4 : decode cX11_commonDivisor 4 = .ok (.lconst 1, 1) := by decide +kernel
theorem dX11_commonDivisor_5 : decode cX11_commonDivisor 5 = .ok (.lcmp, 1) := by decide +kernel
theorem dX11_commonDivisor_6 : decode cX11_commonDivisor 6 = .ok (.ifCond .ge 7, 3) := by decide +kernel
theorem dX11_commonDivisor_9 : decode cX11_commonDivisor 9 = .ok (.lconst 1, 1) := by decide +kernel
theorem dX11_commonDivisor_10 : decode cX11_commonDivisor 10 = .ok (.goto 4, 3) := by decide +kernel
theorem dX11_commonDivisor_13 : decode cX11_commonDivisor 13 = .ok (.lload_n 2, 1) := by decide +kernel
theorem dX11_commonDivisor_14 : decode cX11_commonDivisor 14 = .ok (.lstore 6, 2) := by decide +kernel
theorem dX11_commonDivisor_16 : decode cX11_commonDivisor 16 = .ok (.iconst 0, 1) := by decide +kernel
theorem dX11_commonDivisor_17 : decode cX11_commonDivisor 17 = .ok (.istore 8, 2) := by decide +kernel
theorem dX11_commonDivisor_19 : decode cX11_commonDivisor 19 = .ok (.iload 8, 2) := by decide +kernel
theorem dX11_commonDivisor_21 : decode cX11_commonDivisor 21 = .ok (.bipush 100, 2) := by decide +kernel
theorem dX11_commonDivisor_23 : decode cX11_commonDivisor 23 = .ok (.if_icmp .ge 31, 3) := by decide +kernel
theorem dX11_commonDivisor_26 : decode cX11_commonDivisor 26 = .ok (.lload 4, 2) := by decide +kernel
theorem dX11_commonDivisor_28 : decode cX11_commonDivisor 28 = .ok (.lconst 0, 1) := by decide +kernel
theorem dX11_commonDivisor_29 : decode cX11_commonDivisor 29 = .ok (.lcmp, 1) := by decide +kernel
theorem dX11_commonDivisor_30 : decode cX11_commonDivisor 30 = .ok (.ifCond .le 24, 3) := by decide +kernel
theorem dX11_commonDivisor_33 : decode cX11_commonDivisor 33 = .ok (.lload 6, 2) := by decide +kernel
theorem dX11_commonDivisor_35 : decode cX11_commonDivisor 35 = .ok (.lload 4, 2) := by decide +kernel
theorem dX11_commonDivisor_37 : decode cX11_commonDivisor 37 = .ok (.lrem, 1) := by decide +kernel
theorem dX11_commonDivisor_38 : decode cX11_commonDivisor 38 = .ok (.lstore 9, 2) := by decide +kernel
theorem dX11_commonDivisor_40 : decode cX11_commonDivisor 40 = .ok (.lload 4, 2) := by decide +kernel
theorem dX11_commonDivisor_42 : decode cX11_commonDivisor 42 = .ok (.lstore 6, 2) := by decide +kernel
theorem dX11_commonDivisor_44 : decode cX11_commonDivisor 44 = .ok (.lload 9, 2) := by decide +kernel
theorem dX11_commonDivisor_46 : decode cX11_commonDivisor 46 = .ok (.lstore 4, 2) := by decide +kernel
theorem dX11_commonDivisor_48 : decode cX11_commonDivisor 48 = .ok (.iinc 8 1, 3) := by decide +kernel
theorem dX11_commonDivisor_51 : decode cX11_commonDivisor 51 = .ok (.goto (-32), 3) := by decide +kernel
theorem dX11_commonDivisor_54 : decode cX11_commonDivisor 54 = .ok (.lload 6, 2) := by decide +kernel
theorem dX11_commonDivisor_56 : decode cX11_commonDivisor 56 = .ok (.lreturn, 1) := by decide +kernel
noncomputable def fX11_commonDivisor_s19 (rf : Nat → Nat → Nat)  (τ19 : Int64 × Int64 × Int32) (μ0 : o_Mem) : Option ((Nat × (Int64 × Int64 × Int32)) × o_Mem) :=
  if 100 ≤ τ19.2.2 then (
    some ((54, (0, τ19.2.1, 0)), μ0))
  else (
    if τ19.1 ≤ (0 : Int64) then (
      some ((54, (0, τ19.2.1, 0)), μ0))
    else (
      o_ck (¬ τ19.1 = 0) <|
      some ((19, ((τ19.2.1 - τ19.2.1 / τ19.1 * τ19.1), τ19.1, (τ19.2.2 + 1))), μ0)))
noncomputable def fX11_commonDivisor (rf : Nat → Nat → Nat) (x0 : Int64) (x2 : Int64) (μ0 : o_Mem) : Option (Int64 × o_Mem) :=
  if (1 : Int64) ≤ x2 then (
    o_bd (o_lp 19 (fX11_commonDivisor_s19 rf ) o_fuel (x0, x2, 0) μ0) fun ex1 μ1 =>
    if ex1.1 = 54 then (
      some (ex1.2.2.1, μ1))
    else
      none)
  else (
    o_bd (o_lp 19 (fX11_commonDivisor_s19 rf ) o_fuel (x0, (1 : Int64), 0) μ0) fun ex2 μ2 =>
    if ex2.1 = 54 then (
      some (ex2.2.2.1, μ2))
    else
      none)
set_option maxRecDepth 20000 in
theorem dnX11_commonDivisor_s19 {X : o_Cx} (hX : o_ok X) {d : Nat}  {τ19 : Int64 × Int64 × Int32} {μ0 : o_Mem} {K : (Nat × (Int64 × Int64 × Int32)) → o_Mem → Prop} {Q : Option Value → o_Mem → Prop}  (h : o_Post (fX11_commonDivisor_s19 (o_rf X)  τ19 μ0) K) (kh : ∀ (τ19 : Int64 × Int64 × Int32) (μ : o_Mem), K (19, τ19) μ → o_Ev X (d + 0) mX11_commonDivisor 19 [none, none, none, none, some (.long τ19.1), none, some (.long τ19.2.1), none, some (.int τ19.2.2), none, none] [] μ Q) (k54 : ∀ (τ19 : Int64 × Int64 × Int32) (μ : o_Mem), K (54, τ19) μ → o_Ev X (d + 0) mX11_commonDivisor 54 [none, none, none, none, none, none, some (.long τ19.2.1), none, none, none, none] [] μ Q) : o_Ev X (d + 0) mX11_commonDivisor 19 [none, none, none, none, some (.long τ19.1), none, some (.long τ19.2.1), none, some (.int τ19.2.2), none, none] [] μ0 Q := by
  unfold fX11_commonDivisor_s19 at h
  refine s_iload dX11_commonDivisor_19 rfl ?_
  refine s_bipush dX11_commonDivisor_21 kB_100 ?_
  refine s_icmp_ge (tgt := 54) dX11_commonDivisor_23 rfl (fun c1 => ?_) (fun c1 => ?_)
  · have h := o_if_t c1 h
    refine s_mask [false, false, false, false, false, false, true, false, false, false, false] (L' := [none, none, none, none, none, none, some (.long τ19.2.1), none, none, none, none]) rfl ?_
    exact k54 (0, τ19.2.1, 0) _ (o_ret h)
  · have h := o_if_f c1 h
    refine s_lload dX11_commonDivisor_26 rfl ?_
    refine s_lconst (v := 0) dX11_commonDivisor_28 rfl ?_
    refine s_lif_le (tgt := 54) dX11_commonDivisor_29 dX11_commonDivisor_30 rfl (fun c1 => ?_) (fun c1 => ?_)
    · have h := o_if_t c1 h
      refine s_mask [false, false, false, false, false, false, true, false, false, false, false] (L' := [none, none, none, none, none, none, some (.long τ19.2.1), none, none, none, none]) rfl ?_
      exact k54 (0, τ19.2.1, 0) _ (o_ret h)
    · have h := o_if_f c1 h
      refine s_lload dX11_commonDivisor_33 rfl ?_
      refine s_lload dX11_commonDivisor_35 rfl ?_
      refine s_lrem dX11_commonDivisor_37 (o_ck_c h) ?_
      have h := o_ck_k h
      refine s_lstore dX11_commonDivisor_38 (Nat.le_of_ble_eq_true rfl) rfl ?_
      refine s_lload dX11_commonDivisor_40 rfl ?_
      refine s_lstore dX11_commonDivisor_42 (Nat.le_of_ble_eq_true rfl) rfl ?_
      refine s_lload dX11_commonDivisor_44 rfl ?_
      refine s_lstore dX11_commonDivisor_46 (Nat.le_of_ble_eq_true rfl) rfl ?_
      refine s_iinc (v := (τ19.2.2 + 1)) dX11_commonDivisor_48 rfl rfl (Nat.le_of_ble_eq_true rfl) rfl ?_
      refine s_goto (tgt := 19) dX11_commonDivisor_51 rfl ?_
      refine s_mask [false, false, false, false, true, false, true, false, true, false, false] (L' := [none, none, none, none, some (.long (τ19.2.1 - τ19.2.1 / τ19.1 * τ19.1)), none, some (.long τ19.1), none, some (.int (τ19.2.2 + 1)), none, none]) rfl ?_
      exact kh ((τ19.2.1 - τ19.2.1 / τ19.1 * τ19.1), τ19.1, (τ19.2.2 + 1)) _ (o_ret h)
set_option maxRecDepth 20000 in
theorem dnX11_commonDivisor {X : o_Cx} (hX : o_ok X) {d : Nat} {x0 : Int64} {x2 : Int64} {μ0 : o_Mem} {q : Int64 → o_Mem → Prop}  (h : o_Post (fX11_commonDivisor (o_rf X) x0 x2 μ0) q) : o_Ev X (d + 0) mX11_commonDivisor 0 [some (.long x0), none, some (.long x2), none, none, none, none, none, none, none, none] [] μ0 (o_QL q) := by
  unfold fX11_commonDivisor at h
  refine s_lload_n (i := 0) dX11_commonDivisor_0 rfl rfl ?_
  refine s_lstore dX11_commonDivisor_1 (Nat.le_of_ble_eq_true rfl) rfl ?_
  refine s_lload_n (i := 2) dX11_commonDivisor_3 rfl rfl ?_
  refine s_lconst (v := 1) dX11_commonDivisor_4 rfl ?_
  refine s_lif_ge (tgt := 13) dX11_commonDivisor_5 dX11_commonDivisor_6 rfl (fun c1 => ?_) (fun c1 => ?_)
  · have h := o_if_t c1 h
    refine s_lload_n (i := 2) dX11_commonDivisor_13 rfl rfl ?_
    refine s_lstore dX11_commonDivisor_14 (Nat.le_of_ble_eq_true rfl) rfl ?_
    refine s_iconst dX11_commonDivisor_16 kI_0 ?_
    refine s_istore dX11_commonDivisor_17 (Nat.le_of_ble_eq_true rfl) rfl ?_
    refine s_mask [false, false, false, false, true, false, true, false, true, false, false] (L' := [none, none, none, none, some (.long x0), none, some (.long x2), none, some (.int 0), none, none]) rfl ?_
    refine o_lp_ev (fun τ19 => [none, none, none, none, some (.long τ19.1), none, some (.long τ19.2.1), none, some (.int τ19.2.2), none, none]) (fun τ19 μ _K h kv ke19 => dnX11_commonDivisor_s19 hX  h kv (fun τ19 μ1 h => ?_)) o_fuel (x0, x2, 0) μ0 (o_bdp h)
    · have h := o_if_t rfl (ke19 (54, τ19) μ1 (o_ne rfl) h)
      refine s_lload dX11_commonDivisor_54 rfl ?_
      exact s_lreturn rfl dX11_commonDivisor_56 ⟨_, rfl, o_ret h⟩
  · have h := o_if_f c1 h
    refine s_lconst (v := 1) dX11_commonDivisor_9 rfl ?_
    refine s_goto (tgt := 14) dX11_commonDivisor_10 rfl ?_
    refine s_lstore dX11_commonDivisor_14 (Nat.le_of_ble_eq_true rfl) rfl ?_
    refine s_iconst dX11_commonDivisor_16 kI_0 ?_
    refine s_istore dX11_commonDivisor_17 (Nat.le_of_ble_eq_true rfl) rfl ?_
    refine s_mask [false, false, false, false, true, false, true, false, true, false, false] (L' := [none, none, none, none, some (.long x0), none, some (.long (1 : Int64)), none, some (.int 0), none, none]) rfl ?_
    refine o_lp_ev (fun τ19 => [none, none, none, none, some (.long τ19.1), none, some (.long τ19.2.1), none, some (.int τ19.2.2), none, none]) (fun τ19 μ _K h kv ke19 => dnX11_commonDivisor_s19 hX  h kv (fun τ19 μ2 h => ?_)) o_fuel (x0, (1 : Int64), 0) μ0 (o_bdp h)
    · have h := o_if_t rfl (ke19 (54, τ19) μ2 (o_ne rfl) h)
      refine s_lload dX11_commonDivisor_54 rfl ?_
      exact s_lreturn rfl dX11_commonDivisor_56 ⟨_, rfl, o_ret h⟩
theorem dX11_setFraction_0 : decode cX11_setFraction 0 = .ok (.lconst 1, 1) := by decide +kernel
theorem dX11_setFraction_1 : decode cX11_setFraction 1 = .ok (.lload_n 1, 1) := by decide +kernel
theorem dX11_setFraction_2 : decode cX11_setFraction 2 = .ok (.lload_n 3, 1) := by decide +kernel
theorem dX11_setFraction_3 : decode cX11_setFraction 3 = .ok (.invokestatic 467, 3) := by decide +kernel
theorem dX11_setFraction_6 : decode cX11_setFraction 6 = .ok (.invokestatic 471, 3) := by decide +kernel
theorem dX11_setFraction_9 : decode cX11_setFraction 9 = .ok (.lstore 5, 2) := by decide +kernel
theorem dX11_setFraction_11 : decode cX11_setFraction 11 = .ok (.aload_n 0, 1) := by decide +kernel
theorem dX11_setFraction_12 : decode cX11_setFraction 12 = .ok (.lload_n 1, 1) := by decide +kernel
theorem dX11_setFraction_13 : decode cX11_setFraction 13 = .ok (.lload 5, 2) := by decide +kernel
theorem dX11_setFraction_15 : decode cX11_setFraction 15 = .ok (.ldiv, 1) := by decide +kernel
theorem dX11_setFraction_16 : decode cX11_setFraction 16 = .ok (.putfield 109, 3) := by decide +kernel
theorem dX11_setFraction_19 : decode cX11_setFraction 19 = .ok (.aload_n 0, 1) := by decide +kernel
theorem dX11_setFraction_20 : decode cX11_setFraction 20 = .ok (.lload_n 3, 1) := by decide +kernel
theorem dX11_setFraction_21 : decode cX11_setFraction 21 = .ok (.lload 5, 2) := by decide +kernel
theorem dX11_setFraction_23 : decode cX11_setFraction 23 = .ok (.ldiv, 1) := by decide +kernel
theorem dX11_setFraction_24 : decode cX11_setFraction 24 = .ok (.putfield 9, 3) := by decide +kernel
theorem dX11_setFraction_27 : decode cX11_setFraction 27 = .ok (.return_, 1) := by decide +kernel
noncomputable def fX11_setFraction (rf : Nat → Nat → Nat) (a0 : Nat) (x1 : Int64) (x3 : Int64) (μ0 : o_Mem) : Option (Unit × o_Mem) :=
  o_bd (fX11_commonDivisor rf x1 x3 μ0) fun r1 μ1 =>
  o_ck (¬ (if r1 < (1 : Int64) then (1 : Int64) else r1) = 0) <|
  o_seq (o_wL μ1 a0 1 (x1 / (if r1 < (1 : Int64) then (1 : Int64) else r1))) fun μ2 =>
  o_ck (¬ (if r1 < (1 : Int64) then (1 : Int64) else r1) = 0) <|
  o_seq (o_wL μ2 a0 2 (x3 / (if r1 < (1 : Int64) then (1 : Int64) else r1))) fun μ3 =>
  some ((), μ3)
set_option maxRecDepth 20000 in
theorem dnX11_setFraction {X : o_Cx} (hX : o_ok X) {d : Nat} {a0 : Nat} {x1 : Int64} {x3 : Int64} {μ0 : o_Mem} {q : Unit → o_Mem → Prop} (h0 : o_is X a0 (.inl 11)) (h : o_Post (fX11_setFraction (o_rf X) a0 x1 x3 μ0) q) : o_Ev X (d + 1) mX11_setFraction 0 [some (.ref (o_ad X a0)), some (.long x1), none, some (.long x3), none, none, none] [] μ0 (o_QU q) := by
  unfold fX11_setFraction at h
  refine s_lconst (v := 1) dX11_setFraction_0 rfl ?_
  refine s_lload_n (i := 1) dX11_setFraction_1 rfl rfl ?_
  refine s_lload_n (i := 3) dX11_setFraction_2 rfl rfl ?_
  refine s_callSl (C := mX11_commonDivisor) (As := [.long x1, .long x3]) (rest := [.long (1 : Int64)]) (L0 := [some (.long x1), none, some (.long x3), none, none, none, none, none, none, none, none]) clX11_467 dX11_setFraction_3 rfl rfl (Nat.le_of_ble_eq_true rfl) (Nat.le_of_ble_eq_true rfl) (dnX11_commonDivisor hX  (o_bdp h)) (fun r1 μ1 h => ?_)
  refine s_maxL mlX11_471 mst_maxL mini mco_maxL (Nat.le_of_ble_eq_true rfl) dX11_setFraction_6 ?_
  refine s_lstore dX11_setFraction_9 (Nat.le_of_ble_eq_true rfl) rfl ?_
  refine s_aload_n (i := 0) dX11_setFraction_11 rfl rfl ?_
  refine s_lload_n (i := 1) dX11_setFraction_12 rfl rfl ?_
  refine s_lload dX11_setFraction_13 rfl ?_
  refine s_ldiv dX11_setFraction_15 (o_ck_c h) ?_
  have h := o_ck_k h
  refine s_putL hX h0 fwX11_109 rfl dX11_setFraction_16 (o_gen h (fun μ2 h => ?_))
  refine s_aload_n (i := 0) dX11_setFraction_19 rfl rfl ?_
  refine s_lload_n (i := 3) dX11_setFraction_20 rfl rfl ?_
  refine s_lload dX11_setFraction_21 rfl ?_
  refine s_ldiv dX11_setFraction_23 (o_ck_c h) ?_
  have h := o_ck_k h
  refine s_putL hX h0 fwX11_9 rfl dX11_setFraction_24 (o_gen h (fun μ3 h => ?_))
  exact s_return rfl dX11_setFraction_27 ⟨rfl, o_ret h⟩
theorem dX11_sure_0 : decode cX11_sure 0 = .ok (.aload_n 0, 1) := by decide +kernel
theorem dX11_sure_1 : decode cX11_sure 1 = .ok (.getfield 23, 3) := by decide +kernel
theorem dX11_sure_4 : decode cX11_sure 4 = .ok (.iload_n 1, 1) := by decide +kernel
theorem dX11_sure_5 : decode cX11_sure 5 = .ok (.iload_n 2, 1) := by decide +kernel
theorem dX11_sure_6 : decode cX11_sure 6 = .ok (.iload_n 3, 1) := by decide +kernel
theorem dX11_sure_7 : decode cX11_sure 7 = .ok (.iload 4, 2) := by decide +kernel
theorem dX11_sure_9 : decode cX11_sure 9 = .ok (.invokevirtual 280, 3) := by decide +kernel
theorem dX11_sure_12 : decode cX11_sure 12 = .ok (.ifCond .eq 16, 3) := by decide +kernel
theorem dX11_sure_15 : decode cX11_sure 15 = .ok (.aload_n 0, 1) := by decide +kernel
theorem dX11_sure_16 : decode cX11_sure 16 = .ok (.getfield 23, 3) := by decide +kernel
theorem dX11_sure_19 : decode cX11_sure 19 = .ok (.iload 5, 2) := by decide +kernel
theorem dX11_sure_21 : decode cX11_sure 21 = .ok (.i2l, 1) := by decide +kernel
theorem dX11_sure_22 : decode cX11_sure 22 = .ok (.invokevirtual 241, 3) := by decide +kernel
theorem dX11_sure_25 : decode cX11_sure 25 = .ok (.ifCond .ne 9, 3) := by decide +kernel
theorem dX11_sure_28 : decode cX11_sure 28 = .ok (.aload_n 0, 1) := by decide +kernel
theorem dX11_sure_29 : decode cX11_sure 29 = .ok (.iconst 1, 1) := by decide +kernel
theorem dX11_sure_30 : decode cX11_sure 30 = .ok (.invokevirtual 124, 3) := by decide +kernel
theorem dX11_sure_33 : decode cX11_sure 33 = .ok (.ireturn, 1) := by decide +kernel
theorem dX11_sure_34 : decode cX11_sure 34 = .ok (.aload_n 0, 1) := by decide +kernel
theorem dX11_sure_35 : decode cX11_sure 35 = .ok (.getfield 23, 3) := by decide +kernel
theorem dX11_sure_38 : decode cX11_sure 38 = .ok (.iload_n 1, 1) := by decide +kernel
theorem dX11_sure_39 : decode cX11_sure 39 = .ok (.iload_n 2, 1) := by decide +kernel
theorem dX11_sure_40 : decode cX11_sure 40 = .ok (.iload_n 3, 1) := by decide +kernel
theorem dX11_sure_41 : decode cX11_sure 41 = .ok (.iload 4, 2) := by decide +kernel
theorem dX11_sure_43 : decode cX11_sure 43 = .ok (.invokevirtual 323, 3) := by decide +kernel
theorem dX11_sure_46 : decode cX11_sure 46 = .ok (.istore 6, 2) := by decide +kernel
theorem dX11_sure_48 : decode cX11_sure 48 = .ok (.iconst 0, 1) := by decide +kernel
theorem dX11_sure_49 : decode cX11_sure 49 = .ok (.istore 7, 2) := by decide +kernel
theorem dX11_sure_51 : decode cX11_sure 51 = .ok (.iload 6, 2) := by decide +kernel
theorem dX11_sure_53 : decode cX11_sure 53 = .ok (.iload 5, 2) := by decide +kernel
theorem dX11_sure_55 : decode cX11_sure 55 = .ok (.if_icmp .ne 18, 3) := by decide +kernel
theorem dX11_sure_58 : decode cX11_sure 58 = .ok (.iload 7, 2) := by decide +kernel
theorem dX11_sure_60 : decode cX11_sure 60 = .ok (.bipush 16, 2) := by decide +kernel
theorem dX11_sure_62 : decode cX11_sure 62 = .ok (.aload_n 0, 1) := by decide +kernel
theorem dX11_sure_63 : decode cX11_sure 63 = .ok (.getfield 23, 3) := by decide +kernel
theorem dX11_sure_66 : decode cX11_sure 66 = .ok (.getfield 222, 3) := by decide +kernel
theorem dX11_sure_69 : decode cX11_sure 69 = .ok (.isub, 1) := by decide +kernel
theorem dX11_sure_70 : decode cX11_sure 70 = .ok (.iadd, 1) := by decide +kernel
theorem dX11_sure_71 : decode cX11_sure 71 = .ok (.istore 7, 2) := by decide +kernel
theorem dX11_sure_73 : decode cX11_sure 73 = .ok (.aload_n 0, 1) := by decide +kernel
theorem dX11_sure_74 : decode cX11_sure 74 = .ok (.getfield 23, 3) := by decide +kernel
theorem dX11_sure_77 : decode cX11_sure 77 = .ok (.iload 6, 2) := by decide +kernel
theorem dX11_sure_79 : decode cX11_sure 79 = .ok (.invokevirtual 326, 3) := by decide +kernel
theorem dX11_sure_82 : decode cX11_sure 82 = .ok (.iload 5, 2) := by decide +kernel
theorem dX11_sure_84 : decode cX11_sure 84 = .ok (.if_icmp .ne 15, 3) := by decide +kernel
theorem dX11_sure_87 : decode cX11_sure 87 = .ok (.iload 7, 2) := by decide +kernel
theorem dX11_sure_89 : decode cX11_sure 89 = .ok (.aload_n 0, 1) := by decide +kernel
theorem dX11_sure_90 : decode cX11_sure 90 = .ok (.getfield 23, 3) := by decide +kernel
theorem dX11_sure_93 : decode cX11_sure 93 = .ok (.getfield 222, 3) := by decide +kernel
theorem dX11_sure_96 : decode cX11_sure 96 = .ok (.iadd, 1) := by decide +kernel
theorem dX11_sure_97 : decode cX11_sure 97 = .ok (.istore 7, 2) := by decide +kernel
theorem dX11_sure_99 : decode cX11_sure 99 = .ok (.aload_n 0, 1) := by decide +kernel
theorem dX11_sure_100 : decode cX11_sure 100 = .ok (.iload 7, 2) := by decide +kernel
theorem dX11_sure_102 : decode cX11_sure 102 = .ok (.i2l, 1) := by decide +kernel
theorem dX11_sure_103 : decode cX11_sure 103 = .ok (.ldc2_w 317, 3) := by decide +kernel
theorem dX11_sure_106 : decode cX11_sure 106 = .ok (.invokevirtual 333, 3) := by decide +kernel
theorem dX11_sure_109 : decode cX11_sure 109 = .ok (.aload_n 0, 1) := by decide +kernel
theorem dX11_sure_110 : decode cX11_sure 110 = .ok (.iconst 0, 1) := by decide +kernel
theorem dX11_sure_111 : decode cX11_sure 111 = .ok (.invokevirtual 124, 3) := by decide +kernel
theorem dX11_sure_114 : decode cX11_sure 114 = .ok (.ireturn, 1) := by decide +kernel
noncomputable def fX11_sure_j28 (rf : Nat → Nat → Nat) (a0 : Nat) (μ0 : o_Mem) : Option (Int32 × o_Mem) :=
  o_bd (fX11_ends rf a0 1 μ0) fun r1 μ1 =>
  some (r1, μ1)
noncomputable def fX11_sure_j99 (rf : Nat → Nat → Nat) (a0 : Nat) (x7 : Int32) (μ0 : o_Mem) : Option (Int32 × o_Mem) :=
  o_bd (fX11_setFraction rf a0 x7.toInt64 (16 : Int64) μ0) fun _u μ1 =>
  o_bd (fX11_ends rf a0 0 μ1) fun r1 μ2 =>
  some (r1, μ2)
noncomputable def fX11_sure_j73 (rf : Nat → Nat → Nat) (a0 : Nat) (x5 : Int32) (x6 : Int32) (x7 : Int32) (μ0 : o_Mem) : Option (Int32 × o_Mem) :=
  o_bd (fX8_strikeBehind rf (rf a0 4) x6 μ0) fun r1 μ1 =>
  if r1 = x5 then (
    fX11_sure_j99 rf a0 (x7 + (μ1.1 (rf a0 4) 4)) μ1)
  else (
    fX11_sure_j99 rf a0 x7 μ1)
noncomputable def fX11_sure (rf : Nat → Nat → Nat) (a0 : Nat) (x1 : Int32) (x2 : Int32) (x3 : Int32) (x4 : Int32) (x5 : Int32) (μ0 : o_Mem) : Option (Int32 × o_Mem) :=
  o_bd (fX8_isLetter rf (rf a0 4) x1 x2 x3 x4 μ0) fun r1 μ1 =>
  if r1 = 0 then (
    fX11_sure_j28 rf a0 μ1)
  else (
    o_bd (fX8_isStrike rf (rf a0 4) x5.toInt64 μ1) fun r2 μ2 =>
    if r2 = 0 then (
      fX11_sure_j28 rf a0 μ2)
    else (
      o_bd (fX8_soberStrike rf (rf a0 4) x1 x2 x3 x4 μ2) fun r3 μ3 =>
      if r3 = x5 then (
        fX11_sure_j73 rf a0 x5 r3 (0 + (16 - (μ3.1 (rf a0 4) 4))) μ3)
      else (
        fX11_sure_j73 rf a0 x5 r3 0 μ3)))
set_option maxRecDepth 20000 in
theorem dnX11_sure_j28 {X : o_Cx} (hX : o_ok X) {d : Nat} {a0 : Nat} {μ0 : o_Mem} {q : Int32 → o_Mem → Prop} (h0 : o_is X a0 (.inl 11)) (h : o_Post (fX11_sure_j28 (o_rf X) a0 μ0) q) : o_Ev X (d + 3) mX11_sure 28 [some (.ref (o_ad X a0)), none, none, none, none, none, none, none] [] μ0 (o_QZ q) := by
  unfold fX11_sure_j28 at h
  refine s_aload_n (i := 0) dX11_sure_28 rfl rfl ?_
  refine s_iconst dX11_sure_29 kI_1 ?_
  refine s_callVz (C := mX11_ends) (As := [.int 1]) (rest := []) (L0 := [some (.ref (o_ad X a0)), some (.int 1)]) hX h0 clX11_124 dX11_sure_30 rfl rfl (Nat.le_of_ble_eq_true rfl) (Nat.le_of_ble_eq_true rfl) (dnX11_ends hX h0 (o_bdp h)) (fun r1 μ1 zr1 h => ?_)
  exact s_zreturn rfl zr1 dX11_sure_33 ⟨_, rfl, zr1, o_ret h⟩
set_option maxRecDepth 20000 in
theorem dnX11_sure_j99 {X : o_Cx} (hX : o_ok X) {d : Nat} {a0 : Nat} {x7 : Int32} {μ0 : o_Mem} {q : Int32 → o_Mem → Prop} (h0 : o_is X a0 (.inl 11)) (h : o_Post (fX11_sure_j99 (o_rf X) a0 x7 μ0) q) : o_Ev X (d + 3) mX11_sure 99 [some (.ref (o_ad X a0)), none, none, none, none, none, none, some (.int x7)] [] μ0 (o_QZ q) := by
  unfold fX11_sure_j99 at h
  refine s_aload_n (i := 0) dX11_sure_99 rfl rfl ?_
  refine s_iload dX11_sure_100 rfl ?_
  refine s_i2l dX11_sure_102 ?_
  refine s_ldc2 (v := 16) w_5_31 dX11_sure_103 ?_
  refine s_callVu (C := mX11_setFraction) (As := [.long x7.toInt64, .long (16 : Int64)]) (rest := []) (L0 := [some (.ref (o_ad X a0)), some (.long x7.toInt64), none, some (.long (16 : Int64)), none, none, none]) hX h0 clX11_333 dX11_sure_106 rfl rfl (Nat.le_of_ble_eq_true rfl) (Nat.le_of_ble_eq_true rfl) (dnX11_setFraction hX h0 (o_bdp h)) (fun _u μ1 h => ?_)
  refine s_aload_n (i := 0) dX11_sure_109 rfl rfl ?_
  refine s_iconst dX11_sure_110 kI_0 ?_
  refine s_callVz (C := mX11_ends) (As := [.int 0]) (rest := []) (L0 := [some (.ref (o_ad X a0)), some (.int 0)]) hX h0 clX11_124 dX11_sure_111 rfl rfl (Nat.le_of_ble_eq_true rfl) (Nat.le_of_ble_eq_true rfl) (dnX11_ends hX h0 (o_bdp h)) (fun r1 μ2 zr1 h => ?_)
  exact s_zreturn rfl zr1 dX11_sure_114 ⟨_, rfl, zr1, o_ret h⟩
set_option maxRecDepth 20000 in
theorem dnX11_sure_j73 {X : o_Cx} (hX : o_ok X) {d : Nat} {a0 : Nat} {x5 : Int32} {x6 : Int32} {x7 : Int32} {μ0 : o_Mem} {q : Int32 → o_Mem → Prop} (h0 : o_is X a0 (.inl 11)) (h : o_Post (fX11_sure_j73 (o_rf X) a0 x5 x6 x7 μ0) q) : o_Ev X (d + 3) mX11_sure 73 [some (.ref (o_ad X a0)), none, none, none, none, some (.int x5), some (.int x6), some (.int x7)] [] μ0 (o_QZ q) := by
  unfold fX11_sure_j73 at h
  refine s_aload_n (i := 0) dX11_sure_73 rfl rfl ?_
  refine s_getR hX h0 flX11_23 rfl dX11_sure_74 (fun (g1 : o_is X (o_rf X a0 4) (.inl 8)) => ?_)
  refine s_iload dX11_sure_77 rfl ?_
  refine s_callVi (C := mX8_strikeBehind) (As := [.int x6]) (rest := []) (L0 := [some (.ref (o_ad X (o_rf X a0 4))), some (.int x6)]) hX g1 clX11_326 dX11_sure_79 rfl rfl (Nat.le_of_ble_eq_true rfl) (Nat.le_of_ble_eq_true rfl) (dnX8_strikeBehind hX g1 (o_bdp h)) (fun r1 μ1 h => ?_)
  refine s_iload dX11_sure_82 rfl ?_
  refine s_icmp_ne (tgt := 99) dX11_sure_84 rfl (fun c1 => ?_) (fun c1 => ?_)
  · have h := o_if_f c1 h
    refine s_mask [true, false, false, false, false, false, false, true] (L' := [some (.ref (o_ad X a0)), none, none, none, none, none, none, some (.int x7)]) rfl ?_
    exact dnX11_sure_j99 hX h0 h
  · have h := o_if_t c1 h
    refine s_iload dX11_sure_87 rfl ?_
    refine s_aload_n (i := 0) dX11_sure_89 rfl rfl ?_
    refine s_getR hX h0 flX11_23 rfl dX11_sure_90 (fun (g2 : o_is X (o_rf X a0 4) (.inl 8)) => ?_)
    refine s_getI g2 flX11_222 rfl dX11_sure_93 ?_
    refine s_iadd dX11_sure_96 ?_
    refine s_istore dX11_sure_97 (Nat.le_of_ble_eq_true rfl) rfl ?_
    refine s_mask [true, false, false, false, false, false, false, true] (L' := [some (.ref (o_ad X a0)), none, none, none, none, none, none, some (.int (x7 + (μ1.1 (o_rf X a0 4) 4)))]) rfl ?_
    exact dnX11_sure_j99 hX h0 h
set_option maxRecDepth 20000 in
theorem dnX11_sure {X : o_Cx} (hX : o_ok X) {d : Nat} {a0 : Nat} {x1 : Int32} {x2 : Int32} {x3 : Int32} {x4 : Int32} {x5 : Int32} {μ0 : o_Mem} {q : Int32 → o_Mem → Prop} (h0 : o_is X a0 (.inl 11)) (h : o_Post (fX11_sure (o_rf X) a0 x1 x2 x3 x4 x5 μ0) q) : o_Ev X (d + 3) mX11_sure 0 [some (.ref (o_ad X a0)), some (.int x1), some (.int x2), some (.int x3), some (.int x4), some (.int x5), none, none] [] μ0 (o_QZ q) := by
  unfold fX11_sure at h
  refine s_aload_n (i := 0) dX11_sure_0 rfl rfl ?_
  refine s_getR hX h0 flX11_23 rfl dX11_sure_1 (fun (g1 : o_is X (o_rf X a0 4) (.inl 8)) => ?_)
  refine s_iload_n (i := 1) dX11_sure_4 rfl rfl ?_
  refine s_iload_n (i := 2) dX11_sure_5 rfl rfl ?_
  refine s_iload_n (i := 3) dX11_sure_6 rfl rfl ?_
  refine s_iload dX11_sure_7 rfl ?_
  refine s_callVz (C := mX8_isLetter) (As := [.int x1, .int x2, .int x3, .int x4]) (rest := []) (L0 := [some (.ref (o_ad X (o_rf X a0 4))), some (.int x1), some (.int x2), some (.int x3), some (.int x4)]) hX g1 clX11_280 dX11_sure_9 rfl rfl (Nat.le_of_ble_eq_true rfl) (Nat.le_of_ble_eq_true rfl) (dnX8_isLetter hX g1 (o_bdp h)) (fun r1 μ1 zr1 h => ?_)
  refine s_if_eq (tgt := 28) dX11_sure_12 rfl (fun c1 => ?_) (fun c1 => ?_)
  · have h := o_if_t c1 h
    refine s_mask [true, false, false, false, false, false, false, false] (L' := [some (.ref (o_ad X a0)), none, none, none, none, none, none, none]) rfl ?_
    exact dnX11_sure_j28 hX h0 h
  · have h := o_if_f c1 h
    refine s_aload_n (i := 0) dX11_sure_15 rfl rfl ?_
    refine s_getR hX h0 flX11_23 rfl dX11_sure_16 (fun (g2 : o_is X (o_rf X a0 4) (.inl 8)) => ?_)
    refine s_iload dX11_sure_19 rfl ?_
    refine s_i2l dX11_sure_21 ?_
    refine s_callVz (C := mX8_isStrike) (As := [.long x5.toInt64]) (rest := []) (L0 := [some (.ref (o_ad X (o_rf X a0 4))), some (.long x5.toInt64), none]) hX g2 clX11_241 dX11_sure_22 rfl rfl (Nat.le_of_ble_eq_true rfl) (Nat.le_of_ble_eq_true rfl) (dnX8_isStrike hX g2 (o_bdp h)) (fun r2 μ2 zr2 h => ?_)
    refine s_if_ne (tgt := 34) dX11_sure_25 rfl (fun c1 => ?_) (fun c1 => ?_)
    · have h := o_if_f c1 h
      refine s_aload_n (i := 0) dX11_sure_34 rfl rfl ?_
      refine s_getR hX h0 flX11_23 rfl dX11_sure_35 (fun (g3 : o_is X (o_rf X a0 4) (.inl 8)) => ?_)
      refine s_iload_n (i := 1) dX11_sure_38 rfl rfl ?_
      refine s_iload_n (i := 2) dX11_sure_39 rfl rfl ?_
      refine s_iload_n (i := 3) dX11_sure_40 rfl rfl ?_
      refine s_iload dX11_sure_41 rfl ?_
      refine s_callVi (C := mX8_soberStrike) (As := [.int x1, .int x2, .int x3, .int x4]) (rest := []) (L0 := [some (.ref (o_ad X (o_rf X a0 4))), some (.int x1), some (.int x2), some (.int x3), some (.int x4)]) hX g3 clX11_323 dX11_sure_43 rfl rfl (Nat.le_of_ble_eq_true rfl) (Nat.le_of_ble_eq_true rfl) (dnX8_soberStrike hX g3 (o_bdp h)) (fun r3 μ3 h => ?_)
      refine s_istore dX11_sure_46 (Nat.le_of_ble_eq_true rfl) rfl ?_
      refine s_iconst dX11_sure_48 kI_0 ?_
      refine s_istore dX11_sure_49 (Nat.le_of_ble_eq_true rfl) rfl ?_
      refine s_iload dX11_sure_51 rfl ?_
      refine s_iload dX11_sure_53 rfl ?_
      refine s_icmp_ne (tgt := 73) dX11_sure_55 rfl (fun c1 => ?_) (fun c1 => ?_)
      · have h := o_if_f c1 h
        refine s_mask [true, false, false, false, false, true, true, true] (L' := [some (.ref (o_ad X a0)), none, none, none, none, some (.int x5), some (.int r3), some (.int 0)]) rfl ?_
        exact dnX11_sure_j73 hX h0 h
      · have h := o_if_t c1 h
        refine s_iload dX11_sure_58 rfl ?_
        refine s_bipush dX11_sure_60 kB_16 ?_
        refine s_aload_n (i := 0) dX11_sure_62 rfl rfl ?_
        refine s_getR hX h0 flX11_23 rfl dX11_sure_63 (fun (g4 : o_is X (o_rf X a0 4) (.inl 8)) => ?_)
        refine s_getI g4 flX11_222 rfl dX11_sure_66 ?_
        refine s_isub dX11_sure_69 ?_
        refine s_iadd dX11_sure_70 ?_
        refine s_istore dX11_sure_71 (Nat.le_of_ble_eq_true rfl) rfl ?_
        refine s_mask [true, false, false, false, false, true, true, true] (L' := [some (.ref (o_ad X a0)), none, none, none, none, some (.int x5), some (.int r3), some (.int (0 + (16 - (μ3.1 (o_rf X a0 4) 4))))]) rfl ?_
        exact dnX11_sure_j73 hX h0 h
    · have h := o_if_t c1 h
      refine s_mask [true, false, false, false, false, false, false, false] (L' := [some (.ref (o_ad X a0)), none, none, none, none, none, none, none]) rfl ?_
      exact dnX11_sure_j28 hX h0 h
theorem dX11_wrap_0 : decode cX11_wrap 0 = .ok (.aload_n 0, 1) := by decide +kernel
theorem dX11_wrap_1 : decode cX11_wrap 1 = .ok (.getfield 23, 3) := by decide +kernel
theorem dX11_wrap_4 : decode cX11_wrap 4 = .ok (.iload_n 1, 1) := by decide +kernel
theorem dX11_wrap_5 : decode cX11_wrap 5 = .ok (.iload_n 2, 1) := by decide +kernel
theorem dX11_wrap_6 : decode cX11_wrap 6 = .ok (.iload_n 3, 1) := by decide +kernel
theorem dX11_wrap_7 : decode cX11_wrap 7 = .ok (.iload 4, 2) := by decide +kernel
theorem dX11_wrap_9 : decode cX11_wrap 9 = .ok (.invokevirtual 280, 3) := by decide +kernel
theorem dX11_wrap_12 : decode cX11_wrap 12 = .ok (.ifCond .eq 16, 3) := by decide +kernel
theorem dX11_wrap_15 : decode cX11_wrap 15 = .ok (.aload_n 0, 1) := by decide +kernel
theorem dX11_wrap_16 : decode cX11_wrap 16 = .ok (.getfield 23, 3) := by decide +kernel
theorem dX11_wrap_19 : decode cX11_wrap 19 = .ok (.iload 5, 2) := by decide +kernel
theorem dX11_wrap_21 : decode cX11_wrap 21 = .ok (.i2l, 1) := by decide +kernel
theorem dX11_wrap_22 : decode cX11_wrap 22 = .ok (.invokevirtual 241, 3) := by decide +kernel
theorem dX11_wrap_25 : decode cX11_wrap 25 = .ok (.ifCond .ne 9, 3) := by decide +kernel
theorem dX11_wrap_28 : decode cX11_wrap 28 = .ok (.aload_n 0, 1) := by decide +kernel
theorem dX11_wrap_29 : decode cX11_wrap 29 = .ok (.iconst 1, 1) := by decide +kernel
theorem dX11_wrap_30 : decode cX11_wrap 30 = .ok (.invokevirtual 139, 3) := by decide +kernel
theorem dX11_wrap_33 : decode cX11_wrap 33 = .ok (.ireturn, 1) := by decide +kernel
theorem dX11_wrap_34 : decode cX11_wrap 34 = .ok (.aload_n 0, 1) := by decide +kernel
theorem dX11_wrap_35 : decode cX11_wrap 35 = .ok (.getfield 23, 3) := by decide +kernel
theorem dX11_wrap_38 : decode cX11_wrap 38 = .ok (.iload_n 1, 1) := by decide +kernel
theorem dX11_wrap_39 : decode cX11_wrap 39 = .ok (.iload_n 2, 1) := by decide +kernel
theorem dX11_wrap_40 : decode cX11_wrap 40 = .ok (.iload_n 3, 1) := by decide +kernel
theorem dX11_wrap_41 : decode cX11_wrap 41 = .ok (.iload 4, 2) := by decide +kernel
theorem dX11_wrap_43 : decode cX11_wrap 43 = .ok (.iload 5, 2) := by decide +kernel
theorem dX11_wrap_45 : decode cX11_wrap 45 = .ok (.invokevirtual 337, 3) := by decide +kernel
theorem dX11_wrap_48 : decode cX11_wrap 48 = .ok (.istore 6, 2) := by decide +kernel
theorem dX11_wrap_50 : decode cX11_wrap 50 = .ok (.iload 6, 2) := by decide +kernel
theorem dX11_wrap_52 : decode cX11_wrap 52 = .ok (.iconst (-1), 1) := by decide +kernel
theorem dX11_wrap_53 : decode cX11_wrap 53 = .ok (.if_icmp .ne 12, 3) := by decide +kernel
theorem dX11_wrap_56 : decode cX11_wrap 56 = .ok (.aload_n 0, 1) := by decide +kernel
theorem dX11_wrap_57 : decode cX11_wrap 57 = .ok (.bipush 6, 2) := by decide +kernel
theorem dX11_wrap_59 : decode cX11_wrap 59 = .ok (.invokevirtual 139, 3) := by decide +kernel
theorem dX11_wrap_62 : decode cX11_wrap 62 = .ok (.goto 11, 3) := by decide +kernel
theorem dX11_wrap_65 : decode cX11_wrap 65 = .ok (.aload_n 0, 1) := by decide +kernel
theorem dX11_wrap_66 : decode cX11_wrap 66 = .ok (.iload 6, 2) := by decide +kernel
theorem dX11_wrap_68 : decode cX11_wrap 68 = .ok (.iload_n 3, 1) := by decide +kernel
theorem dX11_wrap_69 : decode cX11_wrap 69 = .ok (.isub, 1) := by decide +kernel
theorem dX11_wrap_70 : decode cX11_wrap 70 = .ok (.invokevirtual 187, 3) := by decide +kernel
theorem dX11_wrap_73 : decode cX11_wrap 73 = .ok (.ireturn, 1) := by decide +kernel
noncomputable def fX11_wrap_j28 (rf : Nat → Nat → Nat) (a0 : Nat) (μ0 : o_Mem) : Option (Int32 × o_Mem) :=
  o_bd (fX11_refuses rf a0 1 μ0) fun r1 μ1 =>
  some (r1, μ1)
noncomputable def fX11_wrap (rf : Nat → Nat → Nat) (a0 : Nat) (x1 : Int32) (x2 : Int32) (x3 : Int32) (x4 : Int32) (x5 : Int32) (μ0 : o_Mem) : Option (Int32 × o_Mem) :=
  o_bd (fX8_isLetter rf (rf a0 4) x1 x2 x3 x4 μ0) fun r1 μ1 =>
  if r1 = 0 then (
    fX11_wrap_j28 rf a0 μ1)
  else (
    o_bd (fX8_isStrike rf (rf a0 4) x5.toInt64 μ1) fun r2 μ2 =>
    if r2 = 0 then (
      fX11_wrap_j28 rf a0 μ2)
    else (
      o_bd (fX8_lightest rf (rf a0 4) x1 x2 x3 x4 x5 μ2) fun r3 μ3 =>
      if r3 = (-1) then (
        o_bd (fX11_refuses rf a0 6 μ3) fun r5 μ5 =>
        some (r5, μ5))
      else (
        o_bd (fX11_gives rf a0 (r3 - x3) μ3) fun r4 μ4 =>
        some (r4, μ4))))
set_option maxRecDepth 20000 in
theorem dnX11_wrap_j28 {X : o_Cx} (hX : o_ok X) {d : Nat} {a0 : Nat} {μ0 : o_Mem} {q : Int32 → o_Mem → Prop} (h0 : o_is X a0 (.inl 11)) (h : o_Post (fX11_wrap_j28 (o_rf X) a0 μ0) q) : o_Ev X (d + 4) mX11_wrap 28 [some (.ref (o_ad X a0)), none, none, none, none, none, none] [] μ0 (o_QI q) := by
  unfold fX11_wrap_j28 at h
  refine s_aload_n (i := 0) dX11_wrap_28 rfl rfl ?_
  refine s_iconst dX11_wrap_29 kI_1 ?_
  refine s_callVi (C := mX11_refuses) (As := [.int 1]) (rest := []) (L0 := [some (.ref (o_ad X a0)), some (.int 1)]) hX h0 clX11_139 dX11_wrap_30 rfl rfl (Nat.le_of_ble_eq_true rfl) (Nat.le_of_ble_eq_true rfl) (dnX11_refuses hX h0 (o_bdp h)) (fun r1 μ1 h => ?_)
  exact s_ireturn rfl dX11_wrap_33 ⟨_, rfl, o_ret h⟩
set_option maxRecDepth 20000 in
theorem dnX11_wrap {X : o_Cx} (hX : o_ok X) {d : Nat} {a0 : Nat} {x1 : Int32} {x2 : Int32} {x3 : Int32} {x4 : Int32} {x5 : Int32} {μ0 : o_Mem} {q : Int32 → o_Mem → Prop} (h0 : o_is X a0 (.inl 11)) (h : o_Post (fX11_wrap (o_rf X) a0 x1 x2 x3 x4 x5 μ0) q) : o_Ev X (d + 4) mX11_wrap 0 [some (.ref (o_ad X a0)), some (.int x1), some (.int x2), some (.int x3), some (.int x4), some (.int x5), none] [] μ0 (o_QI q) := by
  unfold fX11_wrap at h
  refine s_aload_n (i := 0) dX11_wrap_0 rfl rfl ?_
  refine s_getR hX h0 flX11_23 rfl dX11_wrap_1 (fun (g1 : o_is X (o_rf X a0 4) (.inl 8)) => ?_)
  refine s_iload_n (i := 1) dX11_wrap_4 rfl rfl ?_
  refine s_iload_n (i := 2) dX11_wrap_5 rfl rfl ?_
  refine s_iload_n (i := 3) dX11_wrap_6 rfl rfl ?_
  refine s_iload dX11_wrap_7 rfl ?_
  refine s_callVz (C := mX8_isLetter) (As := [.int x1, .int x2, .int x3, .int x4]) (rest := []) (L0 := [some (.ref (o_ad X (o_rf X a0 4))), some (.int x1), some (.int x2), some (.int x3), some (.int x4)]) hX g1 clX11_280 dX11_wrap_9 rfl rfl (Nat.le_of_ble_eq_true rfl) (Nat.le_of_ble_eq_true rfl) (dnX8_isLetter hX g1 (o_bdp h)) (fun r1 μ1 zr1 h => ?_)
  refine s_if_eq (tgt := 28) dX11_wrap_12 rfl (fun c1 => ?_) (fun c1 => ?_)
  · have h := o_if_t c1 h
    refine s_mask [true, false, false, false, false, false, false] (L' := [some (.ref (o_ad X a0)), none, none, none, none, none, none]) rfl ?_
    exact dnX11_wrap_j28 hX h0 h
  · have h := o_if_f c1 h
    refine s_aload_n (i := 0) dX11_wrap_15 rfl rfl ?_
    refine s_getR hX h0 flX11_23 rfl dX11_wrap_16 (fun (g2 : o_is X (o_rf X a0 4) (.inl 8)) => ?_)
    refine s_iload dX11_wrap_19 rfl ?_
    refine s_i2l dX11_wrap_21 ?_
    refine s_callVz (C := mX8_isStrike) (As := [.long x5.toInt64]) (rest := []) (L0 := [some (.ref (o_ad X (o_rf X a0 4))), some (.long x5.toInt64), none]) hX g2 clX11_241 dX11_wrap_22 rfl rfl (Nat.le_of_ble_eq_true rfl) (Nat.le_of_ble_eq_true rfl) (dnX8_isStrike hX g2 (o_bdp h)) (fun r2 μ2 zr2 h => ?_)
    refine s_if_ne (tgt := 34) dX11_wrap_25 rfl (fun c1 => ?_) (fun c1 => ?_)
    · have h := o_if_f c1 h
      refine s_aload_n (i := 0) dX11_wrap_34 rfl rfl ?_
      refine s_getR hX h0 flX11_23 rfl dX11_wrap_35 (fun (g3 : o_is X (o_rf X a0 4) (.inl 8)) => ?_)
      refine s_iload_n (i := 1) dX11_wrap_38 rfl rfl ?_
      refine s_iload_n (i := 2) dX11_wrap_39 rfl rfl ?_
      refine s_iload_n (i := 3) dX11_wrap_40 rfl rfl ?_
      refine s_iload dX11_wrap_41 rfl ?_
      refine s_iload dX11_wrap_43 rfl ?_
      refine s_callVi (C := mX8_lightest) (As := [.int x1, .int x2, .int x3, .int x4, .int x5]) (rest := []) (L0 := [some (.ref (o_ad X (o_rf X a0 4))), some (.int x1), some (.int x2), some (.int x3), some (.int x4), some (.int x5), none]) hX g3 clX11_337 dX11_wrap_45 rfl rfl (Nat.le_of_ble_eq_true rfl) (Nat.le_of_ble_eq_true rfl) (dnX8_lightest hX g3 (o_bdp h)) (fun r3 μ3 h => ?_)
      refine s_istore dX11_wrap_48 (Nat.le_of_ble_eq_true rfl) rfl ?_
      refine s_iload dX11_wrap_50 rfl ?_
      refine s_iconst dX11_wrap_52 kI_m1 ?_
      refine s_icmp_ne (tgt := 65) dX11_wrap_53 rfl (fun c1 => ?_) (fun c1 => ?_)
      · have h := o_if_f c1 h
        refine s_aload_n (i := 0) dX11_wrap_65 rfl rfl ?_
        refine s_iload dX11_wrap_66 rfl ?_
        refine s_iload_n (i := 3) dX11_wrap_68 rfl rfl ?_
        refine s_isub dX11_wrap_69 ?_
        refine s_callVi (C := mX11_gives) (As := [.int (r3 - x3)]) (rest := []) (L0 := [some (.ref (o_ad X a0)), some (.int (r3 - x3))]) hX h0 clX11_187 dX11_wrap_70 rfl rfl (Nat.le_of_ble_eq_true rfl) (Nat.le_of_ble_eq_true rfl) (dnX11_gives hX h0 (o_bdp h)) (fun r4 μ4 h => ?_)
        exact s_ireturn rfl dX11_wrap_73 ⟨_, rfl, o_ret h⟩
      · have h := o_if_t c1 h
        refine s_aload_n (i := 0) dX11_wrap_56 rfl rfl ?_
        refine s_bipush dX11_wrap_57 kB_6 ?_
        refine s_callVi (C := mX11_refuses) (As := [.int 6]) (rest := []) (L0 := [some (.ref (o_ad X a0)), some (.int 6)]) hX h0 clX11_139 dX11_wrap_59 rfl rfl (Nat.le_of_ble_eq_true rfl) (Nat.le_of_ble_eq_true rfl) (dnX11_refuses hX h0 (o_bdp h)) (fun r5 μ5 h => ?_)
        refine s_goto (tgt := 73) dX11_wrap_62 rfl ?_
        exact s_ireturn rfl dX11_wrap_73 ⟨_, rfl, o_ret h⟩
    · have h := o_if_t c1 h
      refine s_mask [true, false, false, false, false, false, false] (L' := [some (.ref (o_ad X a0)), none, none, none, none, none, none]) rfl ?_
      exact dnX11_wrap_j28 hX h0 h
theorem dX11_weights_0 : decode cX11_weights 0 = .ok (.aload_n 0, 1) := by decide +kernel
theorem dX11_weights_1 : decode cX11_weights 1 = .ok (.getfield 23, 3) := by decide +kernel
theorem dX11_weights_4 : decode cX11_weights 4 = .ok (.iload_n 1, 1) := by decide +kernel
theorem dX11_weights_5 : decode cX11_weights 5 = .ok (.iload_n 2, 1) := by decide +kernel
theorem dX11_weights_6 : decode cX11_weights 6 = .ok (.iconst 1, 1) := by decide +kernel
theorem dX11_weights_7 : decode cX11_weights 7 = .ok (.iload_n 3, 1) := by decide +kernel
theorem dX11_weights_8 : decode cX11_weights 8 = .ok (.invokevirtual 280, 3) := by decide +kernel
theorem dX11_weights_11 : decode cX11_weights 11 = .ok (.ifCond .eq 16, 3) := by decide +kernel
theorem dX11_weights_14 : decode cX11_weights 14 = .ok (.aload_n 0, 1) := by decide +kernel
theorem dX11_weights_15 : decode cX11_weights 15 = .ok (.getfield 23, 3) := by decide +kernel
theorem dX11_weights_18 : decode cX11_weights 18 = .ok (.iload 4, 2) := by decide +kernel
theorem dX11_weights_20 : decode cX11_weights 20 = .ok (.i2l, 1) := by decide +kernel
theorem dX11_weights_21 : decode cX11_weights 21 = .ok (.invokevirtual 241, 3) := by decide +kernel
theorem dX11_weights_24 : decode cX11_weights 24 = .ok (.ifCond .ne 9, 3) := by decide +kernel
theorem dX11_weights_27 : decode cX11_weights 27 = .ok (.aload_n 0, 1) := by decide +kernel
theorem dX11_weights_28 : decode cX11_weights 28 = .ok (.iconst 1, 1) := by decide +kernel
theorem dX11_weights_29 : decode cX11_weights 29 = .ok (.invokevirtual 139, 3) := by decide +kernel
theorem dX11_weights_32 : decode cX11_weights 32 = .ok (.ireturn, 1) := by decide +kernel
theorem dX11_weights_33 : decode cX11_weights 33 = .ok (.iconst 0, 1) := by decide +kernel
theorem dX11_weights_34 : decode cX11_weights 34 = .ok (.istore 5, 2) := by decide +kernel
theorem dX11_weights_36 : decode cX11_weights 36 = .ok (.iconst 1, 1) := by decide +kernel
theorem dX11_weights_37 : decode cX11_weights 37 = .ok (.istore 6, 2) := by decide +kernel
theorem dX11_weights_39 : decode cX11_weights 39 = .ok (.iload 6, 2) := by decide +kernel
theorem dX11_weights_41 : decode cX11_weights 41 = .ok (.bipush 99, 2) := by decide +kernel
theorem dX11_weights_43 : decode cX11_weights 43 = .ok (.if_icmp .gt 29, 3) := by decide +kernel
theorem dX11_weights_46 : decode cX11_weights 46 = .ok (.aload_n 0, 1) := by decide +kernel
theorem dX11_weights_47 : decode cX11_weights 47 = .ok (.getfield 23, 3) := by decide +kernel
theorem dX11_weights_50 : decode cX11_weights 50 = .ok (.iload_n 1, 1) := by decide +kernel
theorem dX11_weights_51 : decode cX11_weights 51 = .ok (.iload_n 2, 1) := by decide +kernel
theorem dX11_weights_52 : decode cX11_weights 52 = .ok (.iload 6, 2) := by decide +kernel
theorem dX11_weights_54 : decode cX11_weights 54 = .ok (.iload_n 3, 1) := by decide +kernel
theorem dX11_weights_55 : decode cX11_weights 55 = .ok (.invokevirtual 323, 3) := by decide +kernel
theorem dX11_weights_58 : decode cX11_weights 58 = .ok (.iload 4, 2) := by decide +kernel
theorem dX11_weights_60 : decode cX11_weights 60 = .ok (.if_icmp .ne 6, 3) := by decide +kernel
theorem dX11_weights_63 : decode cX11_weights 63 = .ok (.iinc 5 1, 3) := by decide +kernel
theorem dX11_weights_66 : decode cX11_weights 66 = .ok (.iinc 6 1, 3) := by decide +kernel
theorem dX11_weights_69 : decode cX11_weights 69 = .ok (.goto (-30), 3) := by decide +kernel
theorem dX11_weights_72 : decode cX11_weights 72 = .ok (.aload_n 0, 1) := by decide +kernel
theorem dX11_weights_73 : decode cX11_weights 73 = .ok (.iload 5, 2) := by decide +kernel
theorem dX11_weights_75 : decode cX11_weights 75 = .ok (.invokevirtual 187, 3) := by decide +kernel
theorem dX11_weights_78 : decode cX11_weights 78 = .ok (.ireturn, 1) := by decide +kernel
noncomputable def fX11_weights_j27 (rf : Nat → Nat → Nat) (a0 : Nat) (μ0 : o_Mem) : Option (Int32 × o_Mem) :=
  o_bd (fX11_refuses rf a0 1 μ0) fun r1 μ1 =>
  some (r1, μ1)
noncomputable def fX11_weights_s39 (rf : Nat → Nat → Nat) (a0 : Nat) (x1 : Int32) (x2 : Int32) (x3 : Int32) (x4 : Int32) (τ39 : Int32 × Int32) (μ0 : o_Mem) : Option ((Nat × (Int32 × Int32)) × o_Mem) :=
  if 99 < τ39.2 then (
    some ((72, (τ39.1, 0)), μ0))
  else (
    o_bd (fX8_soberStrike rf (rf a0 4) x1 x2 τ39.2 x3 μ0) fun r1 μ1 =>
    if r1 = x4 then (
      some ((39, ((τ39.1 + 1), (τ39.2 + 1))), μ1))
    else (
      some ((39, (τ39.1, (τ39.2 + 1))), μ1)))
noncomputable def fX11_weights (rf : Nat → Nat → Nat) (a0 : Nat) (x1 : Int32) (x2 : Int32) (x3 : Int32) (x4 : Int32) (μ0 : o_Mem) : Option (Int32 × o_Mem) :=
  o_bd (fX8_isLetter rf (rf a0 4) x1 x2 1 x3 μ0) fun r1 μ1 =>
  if r1 = 0 then (
    fX11_weights_j27 rf a0 μ1)
  else (
    o_bd (fX8_isStrike rf (rf a0 4) x4.toInt64 μ1) fun r2 μ2 =>
    if r2 = 0 then (
      fX11_weights_j27 rf a0 μ2)
    else (
      o_bd (o_lp 39 (fX11_weights_s39 rf a0 x1 x2 x3 x4) o_fuel (0, 1) μ2) fun ex3 μ3 =>
      if ex3.1 = 72 then (
        o_bd (fX11_gives rf a0 ex3.2.1 μ3) fun r3 μ4 =>
        some (r3, μ4))
      else
        none))
set_option maxRecDepth 20000 in
theorem dnX11_weights_j27 {X : o_Cx} (hX : o_ok X) {d : Nat} {a0 : Nat} {μ0 : o_Mem} {q : Int32 → o_Mem → Prop} (h0 : o_is X a0 (.inl 11)) (h : o_Post (fX11_weights_j27 (o_rf X) a0 μ0) q) : o_Ev X (d + 3) mX11_weights 27 [some (.ref (o_ad X a0)), none, none, none, none, none, none] [] μ0 (o_QI q) := by
  unfold fX11_weights_j27 at h
  refine s_aload_n (i := 0) dX11_weights_27 rfl rfl ?_
  refine s_iconst dX11_weights_28 kI_1 ?_
  refine s_callVi (C := mX11_refuses) (As := [.int 1]) (rest := []) (L0 := [some (.ref (o_ad X a0)), some (.int 1)]) hX h0 clX11_139 dX11_weights_29 rfl rfl (Nat.le_of_ble_eq_true rfl) (Nat.le_of_ble_eq_true rfl) (dnX11_refuses hX h0 (o_bdp h)) (fun r1 μ1 h => ?_)
  exact s_ireturn rfl dX11_weights_32 ⟨_, rfl, o_ret h⟩
set_option maxRecDepth 20000 in
theorem dnX11_weights_s39 {X : o_Cx} (hX : o_ok X) {d : Nat} {a0 : Nat} {x1 : Int32} {x2 : Int32} {x3 : Int32} {x4 : Int32} {τ39 : Int32 × Int32} {μ0 : o_Mem} {K : (Nat × (Int32 × Int32)) → o_Mem → Prop} {Q : Option Value → o_Mem → Prop} (h0 : o_is X a0 (.inl 11)) (h : o_Post (fX11_weights_s39 (o_rf X) a0 x1 x2 x3 x4 τ39 μ0) K) (kh : ∀ (τ39 : Int32 × Int32) (μ : o_Mem), K (39, τ39) μ → o_Ev X (d + 3) mX11_weights 39 [some (.ref (o_ad X a0)), some (.int x1), some (.int x2), some (.int x3), some (.int x4), some (.int τ39.1), some (.int τ39.2)] [] μ Q) (k72 : ∀ (τ39 : Int32 × Int32) (μ : o_Mem), K (72, τ39) μ → o_Ev X (d + 3) mX11_weights 72 [some (.ref (o_ad X a0)), none, none, none, none, some (.int τ39.1), none] [] μ Q) : o_Ev X (d + 3) mX11_weights 39 [some (.ref (o_ad X a0)), some (.int x1), some (.int x2), some (.int x3), some (.int x4), some (.int τ39.1), some (.int τ39.2)] [] μ0 Q := by
  unfold fX11_weights_s39 at h
  refine s_iload dX11_weights_39 rfl ?_
  refine s_bipush dX11_weights_41 kB_99 ?_
  refine s_icmp_gt (tgt := 72) dX11_weights_43 rfl (fun c1 => ?_) (fun c1 => ?_)
  · have h := o_if_t c1 h
    refine s_mask [true, false, false, false, false, true, false] (L' := [some (.ref (o_ad X a0)), none, none, none, none, some (.int τ39.1), none]) rfl ?_
    exact k72 (τ39.1, 0) _ (o_ret h)
  · have h := o_if_f c1 h
    refine s_aload_n (i := 0) dX11_weights_46 rfl rfl ?_
    refine s_getR hX h0 flX11_23 rfl dX11_weights_47 (fun (g1 : o_is X (o_rf X a0 4) (.inl 8)) => ?_)
    refine s_iload_n (i := 1) dX11_weights_50 rfl rfl ?_
    refine s_iload_n (i := 2) dX11_weights_51 rfl rfl ?_
    refine s_iload dX11_weights_52 rfl ?_
    refine s_iload_n (i := 3) dX11_weights_54 rfl rfl ?_
    refine s_callVi (C := mX8_soberStrike) (As := [.int x1, .int x2, .int τ39.2, .int x3]) (rest := []) (L0 := [some (.ref (o_ad X (o_rf X a0 4))), some (.int x1), some (.int x2), some (.int τ39.2), some (.int x3)]) hX g1 clX11_323 dX11_weights_55 rfl rfl (Nat.le_of_ble_eq_true rfl) (Nat.le_of_ble_eq_true rfl) (dnX8_soberStrike hX g1 (o_bdp h)) (fun r1 μ1 h => ?_)
    refine s_iload dX11_weights_58 rfl ?_
    refine s_icmp_ne (tgt := 66) dX11_weights_60 rfl (fun c1 => ?_) (fun c1 => ?_)
    · have h := o_if_f c1 h
      refine s_iinc (v := (τ39.2 + 1)) dX11_weights_66 rfl rfl (Nat.le_of_ble_eq_true rfl) rfl ?_
      refine s_goto (tgt := 39) dX11_weights_69 rfl ?_
      refine s_mask [true, true, true, true, true, true, true] (L' := [some (.ref (o_ad X a0)), some (.int x1), some (.int x2), some (.int x3), some (.int x4), some (.int τ39.1), some (.int (τ39.2 + 1))]) rfl ?_
      exact kh (τ39.1, (τ39.2 + 1)) _ (o_ret h)
    · have h := o_if_t c1 h
      refine s_iinc (v := (τ39.1 + 1)) dX11_weights_63 rfl rfl (Nat.le_of_ble_eq_true rfl) rfl ?_
      refine s_iinc (v := (τ39.2 + 1)) dX11_weights_66 rfl rfl (Nat.le_of_ble_eq_true rfl) rfl ?_
      refine s_goto (tgt := 39) dX11_weights_69 rfl ?_
      refine s_mask [true, true, true, true, true, true, true] (L' := [some (.ref (o_ad X a0)), some (.int x1), some (.int x2), some (.int x3), some (.int x4), some (.int (τ39.1 + 1)), some (.int (τ39.2 + 1))]) rfl ?_
      exact kh ((τ39.1 + 1), (τ39.2 + 1)) _ (o_ret h)
set_option maxRecDepth 20000 in
theorem dnX11_weights {X : o_Cx} (hX : o_ok X) {d : Nat} {a0 : Nat} {x1 : Int32} {x2 : Int32} {x3 : Int32} {x4 : Int32} {μ0 : o_Mem} {q : Int32 → o_Mem → Prop} (h0 : o_is X a0 (.inl 11)) (h : o_Post (fX11_weights (o_rf X) a0 x1 x2 x3 x4 μ0) q) : o_Ev X (d + 3) mX11_weights 0 [some (.ref (o_ad X a0)), some (.int x1), some (.int x2), some (.int x3), some (.int x4), none, none] [] μ0 (o_QI q) := by
  unfold fX11_weights at h
  refine s_aload_n (i := 0) dX11_weights_0 rfl rfl ?_
  refine s_getR hX h0 flX11_23 rfl dX11_weights_1 (fun (g1 : o_is X (o_rf X a0 4) (.inl 8)) => ?_)
  refine s_iload_n (i := 1) dX11_weights_4 rfl rfl ?_
  refine s_iload_n (i := 2) dX11_weights_5 rfl rfl ?_
  refine s_iconst dX11_weights_6 kI_1 ?_
  refine s_iload_n (i := 3) dX11_weights_7 rfl rfl ?_
  refine s_callVz (C := mX8_isLetter) (As := [.int x1, .int x2, .int 1, .int x3]) (rest := []) (L0 := [some (.ref (o_ad X (o_rf X a0 4))), some (.int x1), some (.int x2), some (.int 1), some (.int x3)]) hX g1 clX11_280 dX11_weights_8 rfl rfl (Nat.le_of_ble_eq_true rfl) (Nat.le_of_ble_eq_true rfl) (dnX8_isLetter hX g1 (o_bdp h)) (fun r1 μ1 zr1 h => ?_)
  refine s_if_eq (tgt := 27) dX11_weights_11 rfl (fun c1 => ?_) (fun c1 => ?_)
  · have h := o_if_t c1 h
    refine s_mask [true, false, false, false, false, false, false] (L' := [some (.ref (o_ad X a0)), none, none, none, none, none, none]) rfl ?_
    exact dnX11_weights_j27 hX h0 h
  · have h := o_if_f c1 h
    refine s_aload_n (i := 0) dX11_weights_14 rfl rfl ?_
    refine s_getR hX h0 flX11_23 rfl dX11_weights_15 (fun (g2 : o_is X (o_rf X a0 4) (.inl 8)) => ?_)
    refine s_iload dX11_weights_18 rfl ?_
    refine s_i2l dX11_weights_20 ?_
    refine s_callVz (C := mX8_isStrike) (As := [.long x4.toInt64]) (rest := []) (L0 := [some (.ref (o_ad X (o_rf X a0 4))), some (.long x4.toInt64), none]) hX g2 clX11_241 dX11_weights_21 rfl rfl (Nat.le_of_ble_eq_true rfl) (Nat.le_of_ble_eq_true rfl) (dnX8_isStrike hX g2 (o_bdp h)) (fun r2 μ2 zr2 h => ?_)
    refine s_if_ne (tgt := 33) dX11_weights_24 rfl (fun c1 => ?_) (fun c1 => ?_)
    · have h := o_if_f c1 h
      refine s_iconst dX11_weights_33 kI_0 ?_
      refine s_istore dX11_weights_34 (Nat.le_of_ble_eq_true rfl) rfl ?_
      refine s_iconst dX11_weights_36 kI_1 ?_
      refine s_istore dX11_weights_37 (Nat.le_of_ble_eq_true rfl) rfl ?_
      refine s_mask [true, true, true, true, true, true, true] (L' := [some (.ref (o_ad X a0)), some (.int x1), some (.int x2), some (.int x3), some (.int x4), some (.int 0), some (.int 1)]) rfl ?_
      refine o_lp_ev (fun τ39 => [some (.ref (o_ad X a0)), some (.int x1), some (.int x2), some (.int x3), some (.int x4), some (.int τ39.1), some (.int τ39.2)]) (fun τ39 μ _K h kv ke39 => dnX11_weights_s39 hX h0 h kv (fun τ39 μ3 h => ?_)) o_fuel (0, 1) μ2 (o_bdp h)
      · have h := o_if_t rfl (ke39 (72, τ39) μ3 (o_ne rfl) h)
        refine s_aload_n (i := 0) dX11_weights_72 rfl rfl ?_
        refine s_iload dX11_weights_73 rfl ?_
        refine s_callVi (C := mX11_gives) (As := [.int τ39.1]) (rest := []) (L0 := [some (.ref (o_ad X a0)), some (.int τ39.1)]) hX h0 clX11_187 dX11_weights_75 rfl rfl (Nat.le_of_ble_eq_true rfl) (Nat.le_of_ble_eq_true rfl) (dnX11_gives hX h0 (o_bdp h)) (fun r3 μ4 h => ?_)
        exact s_ireturn rfl dX11_weights_78 ⟨_, rfl, o_ret h⟩
    · have h := o_if_t c1 h
      refine s_mask [true, false, false, false, false, false, false] (L' := [some (.ref (o_ad X a0)), none, none, none, none, none, none]) rfl ?_
      exact dnX11_weights_j27 hX h0 h
theorem dX11_weightAt_0 : decode cX11_weightAt 0 = .ok (.aload_n 0, 1) := by decide +kernel
theorem dX11_weightAt_1 : decode cX11_weightAt 1 = .ok (.getfield 23, 3) := by decide +kernel
theorem dX11_weightAt_4 : decode cX11_weightAt 4 = .ok (.iload_n 1, 1) := by decide +kernel
theorem dX11_weightAt_5 : decode cX11_weightAt 5 = .ok (.iload_n 2, 1) := by decide +kernel
theorem dX11_weightAt_6 : decode cX11_weightAt 6 = .ok (.iconst 1, 1) := by decide +kernel
theorem dX11_weightAt_7 : decode cX11_weightAt 7 = .ok (.iload_n 3, 1) := by decide +kernel
theorem dX11_weightAt_8 : decode cX11_weightAt 8 = .ok (.invokevirtual 280, 3) := by decide +kernel
theorem dX11_weightAt_11 : decode cX11_weightAt 11 = .ok (.ifCond .eq 27, 3) := by decide +kernel
theorem dX11_weightAt_14 : decode cX11_weightAt 14 = .ok (.aload_n 0, 1) := by decide +kernel
theorem dX11_weightAt_15 : decode cX11_weightAt 15 = .ok (.getfield 23, 3) := by decide +kernel
theorem dX11_weightAt_18 : decode cX11_weightAt 18 = .ok (.iload 4, 2) := by decide +kernel
theorem dX11_weightAt_20 : decode cX11_weightAt 20 = .ok (.i2l, 1) := by decide +kernel
theorem dX11_weightAt_21 : decode cX11_weightAt 21 = .ok (.invokevirtual 241, 3) := by decide +kernel
theorem dX11_weightAt_24 : decode cX11_weightAt 24 = .ok (.ifCond .eq 14, 3) := by decide +kernel
theorem dX11_weightAt_27 : decode cX11_weightAt 27 = .ok (.iload 5, 2) := by decide +kernel
theorem dX11_weightAt_29 : decode cX11_weightAt 29 = .ok (.i2l, 1) := by decide +kernel
theorem dX11_weightAt_30 : decode cX11_weightAt 30 = .ok (.lconst 0, 1) := by decide +kernel
theorem dX11_weightAt_31 : decode cX11_weightAt 31 = .ok (.lconst 1, 1) := by decide +kernel
theorem dX11_weightAt_32 : decode cX11_weightAt 32 = .ok (.invokestatic 118, 3) := by decide +kernel
theorem dX11_weightAt_35 : decode cX11_weightAt 35 = .ok (.ifCond .ne 9, 3) := by decide +kernel
theorem dX11_weightAt_38 : decode cX11_weightAt 38 = .ok (.aload_n 0, 1) := by decide +kernel
theorem dX11_weightAt_39 : decode cX11_weightAt 39 = .ok (.iconst 1, 1) := by decide +kernel
theorem dX11_weightAt_40 : decode cX11_weightAt 40 = .ok (.invokevirtual 139, 3) := by decide +kernel
theorem dX11_weightAt_43 : decode cX11_weightAt 43 = .ok (.ireturn, 1) := by decide +kernel
theorem dX11_weightAt_44 : decode cX11_weightAt 44 = .ok (.aload_n 0, 1) := by decide +kernel
theorem dX11_weightAt_45 : decode cX11_weightAt 45 = .ok (.iload 5, 2) := by decide +kernel
theorem dX11_weightAt_47 : decode cX11_weightAt 47 = .ok (.ifCond .ne 19, 3) := by decide +kernel
theorem dX11_weightAt_50 : decode cX11_weightAt 50 = .ok (.aload_n 0, 1) := by decide +kernel
theorem dX11_weightAt_51 : decode cX11_weightAt 51 = .ok (.getfield 23, 3) := by decide +kernel
theorem dX11_weightAt_54 : decode cX11_weightAt 54 = .ok (.iload_n 1, 1) := by decide +kernel
theorem dX11_weightAt_55 : decode cX11_weightAt 55 = .ok (.iload_n 2, 1) := by decide +kernel
theorem dX11_weightAt_56 : decode cX11_weightAt 56 = .ok (.iconst 1, 1) := by decide +kernel
theorem dX11_weightAt_57 : decode cX11_weightAt 57 = .ok (.iload_n 3, 1) := by decide +kernel
theorem dX11_weightAt_58 : decode cX11_weightAt 58 = .ok (.iload 4, 2) := by decide +kernel
theorem dX11_weightAt_60 : decode cX11_weightAt 60 = .ok (.invokevirtual 337, 3) := by decide +kernel
theorem dX11_weightAt_63 : decode cX11_weightAt 63 = .ok (.goto 15, 3) := by decide +kernel
theorem dX11_weightAt_66 : decode cX11_weightAt 66 = .ok (.aload_n 0, 1) := by decide +kernel
theorem dX11_weightAt_67 : decode cX11_weightAt 67 = .ok (.getfield 23, 3) := by decide +kernel
theorem dX11_weightAt_70 : decode cX11_weightAt 70 = .ok (.iload_n 1, 1) := by decide +kernel
theorem dX11_weightAt_71 : decode cX11_weightAt 71 = .ok (.iload_n 2, 1) := by decide +kernel
theorem dX11_weightAt_72 : decode cX11_weightAt 72 = .ok (.iload_n 3, 1) := by decide +kernel
theorem dX11_weightAt_73 : decode cX11_weightAt 73 = .ok (.iload 4, 2) := by decide +kernel
theorem dX11_weightAt_75 : decode cX11_weightAt 75 = .ok (.invokevirtual 341, 3) := by decide +kernel
theorem dX11_weightAt_78 : decode cX11_weightAt 78 = .ok (.invokevirtual 259, 3) := by decide +kernel
theorem dX11_weightAt_81 : decode cX11_weightAt 81 = .ok (.ireturn, 1) := by decide +kernel
noncomputable def fX11_weightAt_j38 (rf : Nat → Nat → Nat) (a0 : Nat) (μ0 : o_Mem) : Option (Int32 × o_Mem) :=
  o_bd (fX11_refuses rf a0 1 μ0) fun r1 μ1 =>
  some (r1, μ1)
noncomputable def fX11_weightAt_j78 (rf : Nat → Nat → Nat) (b0 : Nat) (y1 : Int32) (μ0 : o_Mem) : Option (Int32 × o_Mem) :=
  o_bd (fX11_givesIfAny rf b0 y1 μ0) fun r1 μ1 =>
  some (r1, μ1)
noncomputable def fX11_weightAt (rf : Nat → Nat → Nat) (a0 : Nat) (x1 : Int32) (x2 : Int32) (x3 : Int32) (x4 : Int32) (x5 : Int32) (μ0 : o_Mem) : Option (Int32 × o_Mem) :=
  o_bd (fX8_isLetter rf (rf a0 4) x1 x2 1 x3 μ0) fun r1 μ1 =>
  if r1 = 0 then (
    fX11_weightAt_j38 rf a0 μ1)
  else (
    o_bd (fX8_isStrike rf (rf a0 4) x4.toInt64 μ1) fun r2 μ2 =>
    if r2 = 0 then (
      fX11_weightAt_j38 rf a0 μ2)
    else (
      o_bd (fX11_within rf x5.toInt64 (0 : Int64) (1 : Int64) μ2) fun r3 μ3 =>
      if r3 = 0 then (
        fX11_weightAt_j38 rf a0 μ3)
      else (
        if x5 = 0 then (
          o_bd (fX8_lightest rf (rf a0 4) x1 x2 1 x3 x4 μ3) fun r5 μ5 =>
          fX11_weightAt_j78 rf a0 r5 μ5)
        else (
          o_bd (fX8_heaviest rf (rf a0 4) x1 x2 x3 x4 μ3) fun r4 μ4 =>
          fX11_weightAt_j78 rf a0 r4 μ4))))
set_option maxRecDepth 20000 in
theorem dnX11_weightAt_j38 {X : o_Cx} (hX : o_ok X) {d : Nat} {a0 : Nat} {μ0 : o_Mem} {q : Int32 → o_Mem → Prop} (h0 : o_is X a0 (.inl 11)) (h : o_Post (fX11_weightAt_j38 (o_rf X) a0 μ0) q) : o_Ev X (d + 4) mX11_weightAt 38 [some (.ref (o_ad X a0)), none, none, none, none, none] [] μ0 (o_QI q) := by
  unfold fX11_weightAt_j38 at h
  refine s_aload_n (i := 0) dX11_weightAt_38 rfl rfl ?_
  refine s_iconst dX11_weightAt_39 kI_1 ?_
  refine s_callVi (C := mX11_refuses) (As := [.int 1]) (rest := []) (L0 := [some (.ref (o_ad X a0)), some (.int 1)]) hX h0 clX11_139 dX11_weightAt_40 rfl rfl (Nat.le_of_ble_eq_true rfl) (Nat.le_of_ble_eq_true rfl) (dnX11_refuses hX h0 (o_bdp h)) (fun r1 μ1 h => ?_)
  exact s_ireturn rfl dX11_weightAt_43 ⟨_, rfl, o_ret h⟩
set_option maxRecDepth 20000 in
theorem dnX11_weightAt_j78 {X : o_Cx} (hX : o_ok X) {d : Nat} {b0 : Nat} {y1 : Int32} {μ0 : o_Mem} {q : Int32 → o_Mem → Prop} (hb0 : o_is X b0 (.inl 11)) (h : o_Post (fX11_weightAt_j78 (o_rf X) b0 y1 μ0) q) : o_Ev X (d + 4) mX11_weightAt 78 [none, none, none, none, none, none] [.int y1, .ref (o_ad X b0)] μ0 (o_QI q) := by
  unfold fX11_weightAt_j78 at h
  refine s_callVi (C := mX11_givesIfAny) (As := [.int y1]) (rest := []) (L0 := [some (.ref (o_ad X b0)), some (.int y1)]) hX hb0 clX11_259 dX11_weightAt_78 rfl rfl (Nat.le_of_ble_eq_true rfl) (Nat.le_of_ble_eq_true rfl) (dnX11_givesIfAny hX hb0 (o_bdp h)) (fun r1 μ1 h => ?_)
  exact s_ireturn rfl dX11_weightAt_81 ⟨_, rfl, o_ret h⟩
set_option maxRecDepth 20000 in
theorem dnX11_weightAt {X : o_Cx} (hX : o_ok X) {d : Nat} {a0 : Nat} {x1 : Int32} {x2 : Int32} {x3 : Int32} {x4 : Int32} {x5 : Int32} {μ0 : o_Mem} {q : Int32 → o_Mem → Prop} (h0 : o_is X a0 (.inl 11)) (h : o_Post (fX11_weightAt (o_rf X) a0 x1 x2 x3 x4 x5 μ0) q) : o_Ev X (d + 4) mX11_weightAt 0 [some (.ref (o_ad X a0)), some (.int x1), some (.int x2), some (.int x3), some (.int x4), some (.int x5)] [] μ0 (o_QI q) := by
  unfold fX11_weightAt at h
  refine s_aload_n (i := 0) dX11_weightAt_0 rfl rfl ?_
  refine s_getR hX h0 flX11_23 rfl dX11_weightAt_1 (fun (g1 : o_is X (o_rf X a0 4) (.inl 8)) => ?_)
  refine s_iload_n (i := 1) dX11_weightAt_4 rfl rfl ?_
  refine s_iload_n (i := 2) dX11_weightAt_5 rfl rfl ?_
  refine s_iconst dX11_weightAt_6 kI_1 ?_
  refine s_iload_n (i := 3) dX11_weightAt_7 rfl rfl ?_
  refine s_callVz (C := mX8_isLetter) (As := [.int x1, .int x2, .int 1, .int x3]) (rest := []) (L0 := [some (.ref (o_ad X (o_rf X a0 4))), some (.int x1), some (.int x2), some (.int 1), some (.int x3)]) hX g1 clX11_280 dX11_weightAt_8 rfl rfl (Nat.le_of_ble_eq_true rfl) (Nat.le_of_ble_eq_true rfl) (dnX8_isLetter hX g1 (o_bdp h)) (fun r1 μ1 zr1 h => ?_)
  refine s_if_eq (tgt := 38) dX11_weightAt_11 rfl (fun c1 => ?_) (fun c1 => ?_)
  · have h := o_if_t c1 h
    refine s_mask [true, false, false, false, false, false] (L' := [some (.ref (o_ad X a0)), none, none, none, none, none]) rfl ?_
    exact dnX11_weightAt_j38 hX h0 h
  · have h := o_if_f c1 h
    refine s_aload_n (i := 0) dX11_weightAt_14 rfl rfl ?_
    refine s_getR hX h0 flX11_23 rfl dX11_weightAt_15 (fun (g2 : o_is X (o_rf X a0 4) (.inl 8)) => ?_)
    refine s_iload dX11_weightAt_18 rfl ?_
    refine s_i2l dX11_weightAt_20 ?_
    refine s_callVz (C := mX8_isStrike) (As := [.long x4.toInt64]) (rest := []) (L0 := [some (.ref (o_ad X (o_rf X a0 4))), some (.long x4.toInt64), none]) hX g2 clX11_241 dX11_weightAt_21 rfl rfl (Nat.le_of_ble_eq_true rfl) (Nat.le_of_ble_eq_true rfl) (dnX8_isStrike hX g2 (o_bdp h)) (fun r2 μ2 zr2 h => ?_)
    refine s_if_eq (tgt := 38) dX11_weightAt_24 rfl (fun c1 => ?_) (fun c1 => ?_)
    · have h := o_if_t c1 h
      refine s_mask [true, false, false, false, false, false] (L' := [some (.ref (o_ad X a0)), none, none, none, none, none]) rfl ?_
      exact dnX11_weightAt_j38 hX h0 h
    · have h := o_if_f c1 h
      refine s_iload dX11_weightAt_27 rfl ?_
      refine s_i2l dX11_weightAt_29 ?_
      refine s_lconst (v := 0) dX11_weightAt_30 rfl ?_
      refine s_lconst (v := 1) dX11_weightAt_31 rfl ?_
      refine s_callSz (C := mX11_within) (As := [.long x5.toInt64, .long (0 : Int64), .long (1 : Int64)]) (rest := []) (L0 := [some (.long x5.toInt64), none, some (.long (0 : Int64)), none, some (.long (1 : Int64)), none]) clX11_118 dX11_weightAt_32 rfl rfl (Nat.le_of_ble_eq_true rfl) (Nat.le_of_ble_eq_true rfl) (dnX11_within hX  (o_bdp h)) (fun r3 μ3 zr3 h => ?_)
      refine s_if_ne (tgt := 44) dX11_weightAt_35 rfl (fun c1 => ?_) (fun c1 => ?_)
      · have h := o_if_f c1 h
        refine s_aload_n (i := 0) dX11_weightAt_44 rfl rfl ?_
        refine s_iload dX11_weightAt_45 rfl ?_
        refine s_if_ne (tgt := 66) dX11_weightAt_47 rfl (fun c1 => ?_) (fun c1 => ?_)
        · have h := o_if_f c1 h
          refine s_aload_n (i := 0) dX11_weightAt_66 rfl rfl ?_
          refine s_getR hX h0 flX11_23 rfl dX11_weightAt_67 (fun (g3 : o_is X (o_rf X a0 4) (.inl 8)) => ?_)
          refine s_iload_n (i := 1) dX11_weightAt_70 rfl rfl ?_
          refine s_iload_n (i := 2) dX11_weightAt_71 rfl rfl ?_
          refine s_iload_n (i := 3) dX11_weightAt_72 rfl rfl ?_
          refine s_iload dX11_weightAt_73 rfl ?_
          refine s_callVi (C := mX8_heaviest) (As := [.int x1, .int x2, .int x3, .int x4]) (rest := [.ref (o_ad X a0)]) (L0 := [some (.ref (o_ad X (o_rf X a0 4))), some (.int x1), some (.int x2), some (.int x3), some (.int x4), none]) hX g3 clX11_341 dX11_weightAt_75 rfl rfl (Nat.le_of_ble_eq_true rfl) (Nat.le_of_ble_eq_true rfl) (dnX8_heaviest hX g3 (o_bdp h)) (fun r4 μ4 h => ?_)
          refine s_mask [false, false, false, false, false, false] (L' := [none, none, none, none, none, none]) rfl ?_
          exact dnX11_weightAt_j78 hX h0 h
        · have h := o_if_t c1 h
          refine s_aload_n (i := 0) dX11_weightAt_50 rfl rfl ?_
          refine s_getR hX h0 flX11_23 rfl dX11_weightAt_51 (fun (g4 : o_is X (o_rf X a0 4) (.inl 8)) => ?_)
          refine s_iload_n (i := 1) dX11_weightAt_54 rfl rfl ?_
          refine s_iload_n (i := 2) dX11_weightAt_55 rfl rfl ?_
          refine s_iconst dX11_weightAt_56 kI_1 ?_
          refine s_iload_n (i := 3) dX11_weightAt_57 rfl rfl ?_
          refine s_iload dX11_weightAt_58 rfl ?_
          refine s_callVi (C := mX8_lightest) (As := [.int x1, .int x2, .int 1, .int x3, .int x4]) (rest := [.ref (o_ad X a0)]) (L0 := [some (.ref (o_ad X (o_rf X a0 4))), some (.int x1), some (.int x2), some (.int 1), some (.int x3), some (.int x4), none]) hX g4 clX11_337 dX11_weightAt_60 rfl rfl (Nat.le_of_ble_eq_true rfl) (Nat.le_of_ble_eq_true rfl) (dnX8_lightest hX g4 (o_bdp h)) (fun r5 μ5 h => ?_)
          refine s_goto (tgt := 78) dX11_weightAt_63 rfl ?_
          refine s_mask [false, false, false, false, false, false] (L' := [none, none, none, none, none, none]) rfl ?_
          exact dnX11_weightAt_j78 hX h0 h
      · have h := o_if_t c1 h
        refine s_mask [true, false, false, false, false, false] (L' := [some (.ref (o_ad X a0)), none, none, none, none, none]) rfl ?_
        exact dnX11_weightAt_j38 hX h0 h
theorem dX11_could_0 : decode cX11_could 0 = .ok (.aload_n 0, 1) := by decide +kernel
theorem dX11_could_1 : decode cX11_could 1 = .ok (.getfield 23, 3) := by decide +kernel
theorem dX11_could_4 : decode cX11_could 4 = .ok (.iload_n 1, 1) := by decide +kernel
theorem dX11_could_5 : decode cX11_could 5 = .ok (.iload_n 2, 1) := by decide +kernel
theorem dX11_could_6 : decode cX11_could 6 = .ok (.iconst 1, 1) := by decide +kernel
theorem dX11_could_7 : decode cX11_could 7 = .ok (.iload_n 3, 1) := by decide +kernel
theorem dX11_could_8 : decode cX11_could 8 = .ok (.invokevirtual 280, 3) := by decide +kernel
theorem dX11_could_11 : decode cX11_could 11 = .ok (.ifCond .ne 9, 3) := by decide +kernel
theorem dX11_could_14 : decode cX11_could 14 = .ok (.aload_n 0, 1) := by decide +kernel
theorem dX11_could_15 : decode cX11_could 15 = .ok (.iconst 1, 1) := by decide +kernel
theorem dX11_could_16 : decode cX11_could 16 = .ok (.invokevirtual 139, 3) := by decide +kernel
theorem dX11_could_19 : decode cX11_could 19 = .ok (.ireturn, 1) := by decide +kernel
theorem dX11_could_20 : decode cX11_could 20 = .ok (.iconst 0, 1) := by decide +kernel
theorem dX11_could_21 : decode cX11_could 21 = .ok (.istore 4, 2) := by decide +kernel
theorem dX11_could_23 : decode cX11_could 23 = .ok (.iconst 1, 1) := by decide +kernel
theorem dX11_could_24 : decode cX11_could 24 = .ok (.istore 5, 2) := by decide +kernel
theorem dX11_could_26 : decode cX11_could 26 = .ok (.iload 5, 2) := by decide +kernel
theorem dX11_could_28 : decode cX11_could 28 = .ok (.bipush 99, 2) := by decide +kernel
theorem dX11_could_30 : decode cX11_could 30 = .ok (.if_icmp .gt 38, 3) := by decide +kernel
theorem dX11_could_33 : decode cX11_could 33 = .ok (.aload_n 0, 1) := by decide +kernel
theorem dX11_could_34 : decode cX11_could 34 = .ok (.getfield 23, 3) := by decide +kernel
theorem dX11_could_37 : decode cX11_could 37 = .ok (.iload_n 1, 1) := by decide +kernel
theorem dX11_could_38 : decode cX11_could 38 = .ok (.iload_n 2, 1) := by decide +kernel
theorem dX11_could_39 : decode cX11_could 39 = .ok (.iload 5, 2) := by decide +kernel
theorem dX11_could_41 : decode cX11_could 41 = .ok (.iload_n 3, 1) := by decide +kernel
theorem dX11_could_42 : decode cX11_could 42 = .ok (.invokevirtual 323, 3) := by decide +kernel
theorem dX11_could_45 : decode cX11_could 45 = .ok (.istore 6, 2) := by decide +kernel
theorem dX11_could_47 : decode cX11_could 47 = .ok (.iload 6, 2) := by decide +kernel
theorem dX11_could_49 : decode cX11_could 49 = .ok (.iconst (-1), 1) := by decide +kernel
theorem dX11_could_50 : decode cX11_could 50 = .ok (.if_icmp .eq 12, 3) := by decide +kernel
theorem dX11_could_53 : decode cX11_could 53 = .ok (.iload 4, 2) := by decide +kernel
theorem dX11_could_55 : decode cX11_could 55 = .ok (.iconst 1, 1) := by decide +kernel
theorem dX11_could_56 : decode cX11_could 56 = .ok (.iload 6, 2) := by decide +kernel
theorem dX11_could_58 : decode cX11_could 58 = .ok (.ishl, 1) := by decide +kernel
theorem dX11_could_59 : decode cX11_could 59 = .ok (.ior, 1) := by decide +kernel
theorem dX11_could_60 : decode cX11_could 60 = .ok (.istore 4, 2) := by decide +kernel
theorem dX11_could_62 : decode cX11_could 62 = .ok (.iinc 5 1, 3) := by decide +kernel
theorem dX11_could_65 : decode cX11_could 65 = .ok (.goto (-39), 3) := by decide +kernel
theorem dX11_could_68 : decode cX11_could 68 = .ok (.aload_n 0, 1) := by decide +kernel
theorem dX11_could_69 : decode cX11_could 69 = .ok (.iload 4, 2) := by decide +kernel
theorem dX11_could_71 : decode cX11_could 71 = .ok (.invokevirtual 187, 3) := by decide +kernel
theorem dX11_could_74 : decode cX11_could 74 = .ok (.ireturn, 1) := by decide +kernel
noncomputable def fX11_could_s26 (rf : Nat → Nat → Nat) (a0 : Nat) (x1 : Int32) (x2 : Int32) (x3 : Int32) (τ26 : Int32 × Int32) (μ0 : o_Mem) : Option ((Nat × (Int32 × Int32)) × o_Mem) :=
  if 99 < τ26.2 then (
    some ((68, (τ26.1, 0)), μ0))
  else (
    o_bd (fX8_soberStrike rf (rf a0 4) x1 x2 τ26.2 x3 μ0) fun r1 μ1 =>
    if r1 = (-1) then (
      some ((26, (τ26.1, (τ26.2 + 1))), μ1))
    else (
      some ((26, ((τ26.1 ||| (1 <<< (r1 &&& 31))), (τ26.2 + 1))), μ1)))
noncomputable def fX11_could (rf : Nat → Nat → Nat) (a0 : Nat) (x1 : Int32) (x2 : Int32) (x3 : Int32) (μ0 : o_Mem) : Option (Int32 × o_Mem) :=
  o_bd (fX8_isLetter rf (rf a0 4) x1 x2 1 x3 μ0) fun r1 μ1 =>
  if r1 = 0 then (
    o_bd (fX11_refuses rf a0 1 μ1) fun r3 μ4 =>
    some (r3, μ4))
  else (
    o_bd (o_lp 26 (fX11_could_s26 rf a0 x1 x2 x3) o_fuel (0, 1) μ1) fun ex2 μ2 =>
    if ex2.1 = 68 then (
      o_bd (fX11_gives rf a0 ex2.2.1 μ2) fun r2 μ3 =>
      some (r2, μ3))
    else
      none)
set_option maxRecDepth 20000 in
theorem dnX11_could_s26 {X : o_Cx} (hX : o_ok X) {d : Nat} {a0 : Nat} {x1 : Int32} {x2 : Int32} {x3 : Int32} {τ26 : Int32 × Int32} {μ0 : o_Mem} {K : (Nat × (Int32 × Int32)) → o_Mem → Prop} {Q : Option Value → o_Mem → Prop} (h0 : o_is X a0 (.inl 11)) (h : o_Post (fX11_could_s26 (o_rf X) a0 x1 x2 x3 τ26 μ0) K) (kh : ∀ (τ26 : Int32 × Int32) (μ : o_Mem), K (26, τ26) μ → o_Ev X (d + 3) mX11_could 26 [some (.ref (o_ad X a0)), some (.int x1), some (.int x2), some (.int x3), some (.int τ26.1), some (.int τ26.2), none] [] μ Q) (k68 : ∀ (τ26 : Int32 × Int32) (μ : o_Mem), K (68, τ26) μ → o_Ev X (d + 3) mX11_could 68 [some (.ref (o_ad X a0)), none, none, none, some (.int τ26.1), none, none] [] μ Q) : o_Ev X (d + 3) mX11_could 26 [some (.ref (o_ad X a0)), some (.int x1), some (.int x2), some (.int x3), some (.int τ26.1), some (.int τ26.2), none] [] μ0 Q := by
  unfold fX11_could_s26 at h
  refine s_iload dX11_could_26 rfl ?_
  refine s_bipush dX11_could_28 kB_99 ?_
  refine s_icmp_gt (tgt := 68) dX11_could_30 rfl (fun c1 => ?_) (fun c1 => ?_)
  · have h := o_if_t c1 h
    refine s_mask [true, false, false, false, true, false, false] (L' := [some (.ref (o_ad X a0)), none, none, none, some (.int τ26.1), none, none]) rfl ?_
    exact k68 (τ26.1, 0) _ (o_ret h)
  · have h := o_if_f c1 h
    refine s_aload_n (i := 0) dX11_could_33 rfl rfl ?_
    refine s_getR hX h0 flX11_23 rfl dX11_could_34 (fun (g1 : o_is X (o_rf X a0 4) (.inl 8)) => ?_)
    refine s_iload_n (i := 1) dX11_could_37 rfl rfl ?_
    refine s_iload_n (i := 2) dX11_could_38 rfl rfl ?_
    refine s_iload dX11_could_39 rfl ?_
    refine s_iload_n (i := 3) dX11_could_41 rfl rfl ?_
    refine s_callVi (C := mX8_soberStrike) (As := [.int x1, .int x2, .int τ26.2, .int x3]) (rest := []) (L0 := [some (.ref (o_ad X (o_rf X a0 4))), some (.int x1), some (.int x2), some (.int τ26.2), some (.int x3)]) hX g1 clX11_323 dX11_could_42 rfl rfl (Nat.le_of_ble_eq_true rfl) (Nat.le_of_ble_eq_true rfl) (dnX8_soberStrike hX g1 (o_bdp h)) (fun r1 μ1 h => ?_)
    refine s_istore dX11_could_45 (Nat.le_of_ble_eq_true rfl) rfl ?_
    refine s_iload dX11_could_47 rfl ?_
    refine s_iconst dX11_could_49 kI_m1 ?_
    refine s_icmp_eq (tgt := 62) dX11_could_50 rfl (fun c1 => ?_) (fun c1 => ?_)
    · have h := o_if_t c1 h
      refine s_iinc (v := (τ26.2 + 1)) dX11_could_62 rfl rfl (Nat.le_of_ble_eq_true rfl) rfl ?_
      refine s_goto (tgt := 26) dX11_could_65 rfl ?_
      refine s_mask [true, true, true, true, true, true, false] (L' := [some (.ref (o_ad X a0)), some (.int x1), some (.int x2), some (.int x3), some (.int τ26.1), some (.int (τ26.2 + 1)), none]) rfl ?_
      exact kh (τ26.1, (τ26.2 + 1)) _ (o_ret h)
    · have h := o_if_f c1 h
      refine s_iload dX11_could_53 rfl ?_
      refine s_iconst dX11_could_55 kI_1 ?_
      refine s_iload dX11_could_56 rfl ?_
      refine s_ishl dX11_could_58 ?_
      refine s_ior dX11_could_59 ?_
      refine s_istore dX11_could_60 (Nat.le_of_ble_eq_true rfl) rfl ?_
      refine s_iinc (v := (τ26.2 + 1)) dX11_could_62 rfl rfl (Nat.le_of_ble_eq_true rfl) rfl ?_
      refine s_goto (tgt := 26) dX11_could_65 rfl ?_
      refine s_mask [true, true, true, true, true, true, false] (L' := [some (.ref (o_ad X a0)), some (.int x1), some (.int x2), some (.int x3), some (.int (τ26.1 ||| (1 <<< (r1 &&& 31)))), some (.int (τ26.2 + 1)), none]) rfl ?_
      exact kh ((τ26.1 ||| (1 <<< (r1 &&& 31))), (τ26.2 + 1)) _ (o_ret h)
set_option maxRecDepth 20000 in
theorem dnX11_could {X : o_Cx} (hX : o_ok X) {d : Nat} {a0 : Nat} {x1 : Int32} {x2 : Int32} {x3 : Int32} {μ0 : o_Mem} {q : Int32 → o_Mem → Prop} (h0 : o_is X a0 (.inl 11)) (h : o_Post (fX11_could (o_rf X) a0 x1 x2 x3 μ0) q) : o_Ev X (d + 3) mX11_could 0 [some (.ref (o_ad X a0)), some (.int x1), some (.int x2), some (.int x3), none, none, none] [] μ0 (o_QI q) := by
  unfold fX11_could at h
  refine s_aload_n (i := 0) dX11_could_0 rfl rfl ?_
  refine s_getR hX h0 flX11_23 rfl dX11_could_1 (fun (g1 : o_is X (o_rf X a0 4) (.inl 8)) => ?_)
  refine s_iload_n (i := 1) dX11_could_4 rfl rfl ?_
  refine s_iload_n (i := 2) dX11_could_5 rfl rfl ?_
  refine s_iconst dX11_could_6 kI_1 ?_
  refine s_iload_n (i := 3) dX11_could_7 rfl rfl ?_
  refine s_callVz (C := mX8_isLetter) (As := [.int x1, .int x2, .int 1, .int x3]) (rest := []) (L0 := [some (.ref (o_ad X (o_rf X a0 4))), some (.int x1), some (.int x2), some (.int 1), some (.int x3)]) hX g1 clX11_280 dX11_could_8 rfl rfl (Nat.le_of_ble_eq_true rfl) (Nat.le_of_ble_eq_true rfl) (dnX8_isLetter hX g1 (o_bdp h)) (fun r1 μ1 zr1 h => ?_)
  refine s_if_ne (tgt := 20) dX11_could_11 rfl (fun c1 => ?_) (fun c1 => ?_)
  · have h := o_if_f c1 h
    refine s_iconst dX11_could_20 kI_0 ?_
    refine s_istore dX11_could_21 (Nat.le_of_ble_eq_true rfl) rfl ?_
    refine s_iconst dX11_could_23 kI_1 ?_
    refine s_istore dX11_could_24 (Nat.le_of_ble_eq_true rfl) rfl ?_
    refine s_mask [true, true, true, true, true, true, false] (L' := [some (.ref (o_ad X a0)), some (.int x1), some (.int x2), some (.int x3), some (.int 0), some (.int 1), none]) rfl ?_
    refine o_lp_ev (fun τ26 => [some (.ref (o_ad X a0)), some (.int x1), some (.int x2), some (.int x3), some (.int τ26.1), some (.int τ26.2), none]) (fun τ26 μ _K h kv ke26 => dnX11_could_s26 hX h0 h kv (fun τ26 μ2 h => ?_)) o_fuel (0, 1) μ1 (o_bdp h)
    · have h := o_if_t rfl (ke26 (68, τ26) μ2 (o_ne rfl) h)
      refine s_aload_n (i := 0) dX11_could_68 rfl rfl ?_
      refine s_iload dX11_could_69 rfl ?_
      refine s_callVi (C := mX11_gives) (As := [.int τ26.1]) (rest := []) (L0 := [some (.ref (o_ad X a0)), some (.int τ26.1)]) hX h0 clX11_187 dX11_could_71 rfl rfl (Nat.le_of_ble_eq_true rfl) (Nat.le_of_ble_eq_true rfl) (dnX11_gives hX h0 (o_bdp h)) (fun r2 μ3 h => ?_)
      exact s_ireturn rfl dX11_could_74 ⟨_, rfl, o_ret h⟩
  · have h := o_if_t c1 h
    refine s_aload_n (i := 0) dX11_could_14 rfl rfl ?_
    refine s_iconst dX11_could_15 kI_1 ?_
    refine s_callVi (C := mX11_refuses) (As := [.int 1]) (rest := []) (L0 := [some (.ref (o_ad X a0)), some (.int 1)]) hX h0 clX11_139 dX11_could_16 rfl rfl (Nat.le_of_ble_eq_true rfl) (Nat.le_of_ble_eq_true rfl) (dnX11_refuses hX h0 (o_bdp h)) (fun r3 μ4 h => ?_)
    exact s_ireturn rfl dX11_could_19 ⟨_, rfl, o_ret h⟩
theorem dX11_idle_0 : decode cX11_idle 0 = .ok (.iconst 1, 1) := by decide +kernel
theorem dX11_idle_1 : decode cX11_idle 1 = .ok (.aload_n 0, 1) := by decide +kernel
theorem dX11_idle_2 : decode cX11_idle 2 = .ok (.getfield 23, 3) := by decide +kernel
theorem dX11_idle_5 : decode cX11_idle 5 = .ok (.getfield 184, 3) := by decide +kernel
theorem dX11_idle_8 : decode cX11_idle 8 = .ok (.ishl, 1) := by decide +kernel
theorem dX11_idle_9 : decode cX11_idle 9 = .ok (.iconst 1, 1) := by decide +kernel
theorem dX11_idle_10 : decode cX11_idle 10 = .ok (.isub, 1) := by decide +kernel
theorem dX11_idle_11 : decode cX11_idle 11 = .ok (.istore_n 1, 1) := by decide +kernel
theorem dX11_idle_12 : decode cX11_idle 12 = .ok (.iconst 0, 1) := by decide +kernel
theorem dX11_idle_13 : decode cX11_idle 13 = .ok (.istore_n 2, 1) := by decide +kernel
theorem dX11_idle_14 : decode cX11_idle 14 = .ok (.iconst 0, 1) := by decide +kernel
theorem dX11_idle_15 : decode cX11_idle 15 = .ok (.istore_n 3, 1) := by decide +kernel
theorem dX11_idle_16 : decode cX11_idle 16 = .ok (.iload_n 3, 1) := by decide +kernel
theorem dX11_idle_17 : decode cX11_idle 17 = .ok (.aload_n 0, 1) := by decide +kernel
theorem dX11_idle_18 : decode cX11_idle 18 = .ok (.getfield 23, 3) := by decide +kernel
theorem dX11_idle_21 : decode cX11_idle 21 = .ok (.getfield 209, 3) := by decide +kernel
theorem dX11_idle_24 : decode cX11_idle 24 = .ok (.if_icmp .ge 59, 3) := by decide +kernel
theorem dX11_idle_27 : decode cX11_idle 27 = .ok (.iload_n 2, 1) := by decide +kernel
theorem dX11_idle_28 : decode cX11_idle 28 = .ok (.iload_n 1, 1) := by decide +kernel
theorem dX11_idle_29 : decode cX11_idle 29 = .ok (.if_icmp .eq 54, 3) := by decide +kernel
theorem dX11_idle_32 : decode cX11_idle 32 = .ok (.iconst 0, 1) := by decide +kernel
theorem dX11_idle_33 : decode cX11_idle 33 = .ok (.istore 4, 2) := by decide +kernel
theorem dX11_idle_35 : decode cX11_idle 35 = .ok (.iload 4, 2) := by decide +kernel
theorem dX11_idle_37 : decode cX11_idle 37 = .ok (.aload_n 0, 1) := by decide +kernel
theorem dX11_idle_38 : decode cX11_idle 38 = .ok (.getfield 23, 3) := by decide +kernel
theorem dX11_idle_41 : decode cX11_idle 41 = .ok (.getfield 209, 3) := by decide +kernel
theorem dX11_idle_44 : decode cX11_idle 44 = .ok (.if_icmp .ge 33, 3) := by decide +kernel
theorem dX11_idle_47 : decode cX11_idle 47 = .ok (.iload_n 2, 1) := by decide +kernel
theorem dX11_idle_48 : decode cX11_idle 48 = .ok (.iload_n 1, 1) := by decide +kernel
theorem dX11_idle_49 : decode cX11_idle 49 = .ok (.if_icmp .eq 28, 3) := by decide +kernel
theorem dX11_idle_52 : decode cX11_idle 52 = .ok (.iload_n 3, 1) := by decide +kernel
theorem dX11_idle_53 : decode cX11_idle 53 = .ok (.iload 4, 2) := by decide +kernel
theorem dX11_idle_55 : decode cX11_idle 55 = .ok (.if_icmp .eq 16, 3) := by decide +kernel
theorem dX11_idle_58 : decode cX11_idle 58 = .ok (.iload_n 2, 1) := by decide +kernel
theorem dX11_idle_59 : decode cX11_idle 59 = .ok (.aload_n 0, 1) := by decide +kernel
theorem dX11_idle_60 : decode cX11_idle 60 = .ok (.getfield 23, 3) := by decide +kernel
theorem dX11_idle_63 : decode cX11_idle 63 = .ok (.iload_n 3, 1) := by decide +kernel
theorem dX11_idle_64 : decode cX11_idle 64 = .ok (.iload 4, 2) := by decide +kernel
theorem dX11_idle_66 : decode cX11_idle 66 = .ok (.invokevirtual 344, 3) := by decide +kernel
theorem dX11_idle_69 : decode cX11_idle 69 = .ok (.ior, 1) := by decide +kernel
theorem dX11_idle_70 : decode cX11_idle 70 = .ok (.istore_n 2, 1) := by decide +kernel
theorem dX11_idle_71 : decode cX11_idle 71 = .ok (.iinc 4 1, 3) := by decide +kernel
theorem dX11_idle_74 : decode cX11_idle 74 = .ok (.goto (-39), 3) := by decide +kernel
theorem dX11_idle_77 : decode cX11_idle 77 = .ok (.iinc 3 1, 3) := by decide +kernel
theorem dX11_idle_80 : decode cX11_idle 80 = .ok (.goto (-64), 3) := by decide +kernel
theorem dX11_idle_83 : decode cX11_idle 83 = .ok (.aload_n 0, 1) := by decide +kernel
theorem dX11_idle_84 : decode cX11_idle 84 = .ok (.iload_n 1, 1) := by decide +kernel
theorem dX11_idle_85 : decode cX11_idle 85 = .ok (.iload_n 2, 1) := by decide +kernel
theorem dX11_idle_86 : decode cX11_idle 86 = .ok (.iconst (-1), 1) := by decide +kernel
theorem dX11_idle_87 : decode cX11_idle 87 = .ok (.ixor, 1) := by decide +kernel
theorem dX11_idle_88 : decode cX11_idle 88 = .ok (.iand, 1) := by decide +kernel
theorem dX11_idle_89 : decode cX11_idle 89 = .ok (.invokevirtual 187, 3) := by decide +kernel
theorem dX11_idle_92 : decode cX11_idle 92 = .ok (.ireturn, 1) := by decide +kernel
noncomputable def fX11_idle_s35 (rf : Nat → Nat → Nat) (a0 : Nat) (x1 : Int32) (x3 : Int32) (τ35 : Int32 × Int32) (μ0 : o_Mem) : Option ((Nat × (Int32 × Int32)) × o_Mem) :=
  if (μ0.1 (rf a0 4) 2) ≤ τ35.2 then (
    some ((77, (τ35.1, 0)), μ0))
  else (
    if τ35.1 = x1 then (
      some ((77, (τ35.1, 0)), μ0))
    else (
      if x3 = τ35.2 then (
        some ((35, (τ35.1, (τ35.2 + 1))), μ0))
      else (
        o_bd (fX8_lawsFirstBetween rf (rf a0 4) x3 τ35.2 μ0) fun r1 μ1 =>
        some ((35, ((τ35.1 ||| r1), (τ35.2 + 1))), μ1))))
noncomputable def fX11_idle_s16 (rf : Nat → Nat → Nat) (a0 : Nat) (x1 : Int32) (τ16 : Int32 × Int32) (μ0 : o_Mem) : Option ((Nat × (Int32 × Int32)) × o_Mem) :=
  if (μ0.1 (rf a0 4) 2) ≤ τ16.2 then (
    some ((83, (τ16.1, 0)), μ0))
  else (
    if τ16.1 = x1 then (
      some ((83, (τ16.1, 0)), μ0))
    else (
      o_bd (o_lp 35 (fX11_idle_s35 rf a0 x1 τ16.2) o_fuel (τ16.1, 0) μ0) fun ex1 μ1 =>
      if ex1.1 = 77 then (
        some ((16, (ex1.2.1, (τ16.2 + 1))), μ1))
      else
        none))
noncomputable def fX11_idle_j83 (rf : Nat → Nat → Nat) (a0 : Nat) (x1 : Int32) (x2 : Int32) (μ0 : o_Mem) : Option (Int32 × o_Mem) :=
  o_bd (fX11_gives rf a0 (x1 &&& (x2 ^^^ (-1))) μ0) fun r1 μ1 =>
  some (r1, μ1)
noncomputable def fX11_idle (rf : Nat → Nat → Nat) (a0 : Nat) (μ0 : o_Mem) : Option (Int32 × o_Mem) :=
  o_bd (o_lp 16 (fX11_idle_s16 rf a0 ((1 <<< ((μ0.1 (rf a0 4) 3) &&& 31)) - 1)) o_fuel (0, 0) μ0) fun ex1 μ1 =>
  if ex1.1 = 83 then (
    fX11_idle_j83 rf a0 ((1 <<< ((μ0.1 (rf a0 4) 3) &&& 31)) - 1) ex1.2.1 μ1)
  else
    none
set_option maxRecDepth 20000 in
theorem dnX11_idle_s35 {X : o_Cx} (hX : o_ok X) {d : Nat} {a0 : Nat} {x1 : Int32} {x3 : Int32} {τ35 : Int32 × Int32} {μ0 : o_Mem} {K : (Nat × (Int32 × Int32)) → o_Mem → Prop} {Q : Option Value → o_Mem → Prop} (h0 : o_is X a0 (.inl 11)) (h : o_Post (fX11_idle_s35 (o_rf X) a0 x1 x3 τ35 μ0) K) (kh : ∀ (τ35 : Int32 × Int32) (μ : o_Mem), K (35, τ35) μ → o_Ev X (d + 3) mX11_idle 35 [some (.ref (o_ad X a0)), some (.int x1), some (.int τ35.1), some (.int x3), some (.int τ35.2)] [] μ Q) (k77 : ∀ (τ35 : Int32 × Int32) (μ : o_Mem), K (77, τ35) μ → o_Ev X (d + 3) mX11_idle 77 [some (.ref (o_ad X a0)), some (.int x1), some (.int τ35.1), some (.int x3), none] [] μ Q) : o_Ev X (d + 3) mX11_idle 35 [some (.ref (o_ad X a0)), some (.int x1), some (.int τ35.1), some (.int x3), some (.int τ35.2)] [] μ0 Q := by
  unfold fX11_idle_s35 at h
  refine s_iload dX11_idle_35 rfl ?_
  refine s_aload_n (i := 0) dX11_idle_37 rfl rfl ?_
  refine s_getR hX h0 flX11_23 rfl dX11_idle_38 (fun (g1 : o_is X (o_rf X a0 4) (.inl 8)) => ?_)
  refine s_getI g1 flX11_209 rfl dX11_idle_41 ?_
  refine s_icmp_ge (tgt := 77) dX11_idle_44 rfl (fun c1 => ?_) (fun c1 => ?_)
  · have h := o_if_t c1 h
    refine s_mask [true, true, true, true, false] (L' := [some (.ref (o_ad X a0)), some (.int x1), some (.int τ35.1), some (.int x3), none]) rfl ?_
    exact k77 (τ35.1, 0) _ (o_ret h)
  · have h := o_if_f c1 h
    refine s_iload_n (i := 2) dX11_idle_47 rfl rfl ?_
    refine s_iload_n (i := 1) dX11_idle_48 rfl rfl ?_
    refine s_icmp_eq (tgt := 77) dX11_idle_49 rfl (fun c1 => ?_) (fun c1 => ?_)
    · have h := o_if_t c1 h
      refine s_mask [true, true, true, true, false] (L' := [some (.ref (o_ad X a0)), some (.int x1), some (.int τ35.1), some (.int x3), none]) rfl ?_
      exact k77 (τ35.1, 0) _ (o_ret h)
    · have h := o_if_f c1 h
      refine s_iload_n (i := 3) dX11_idle_52 rfl rfl ?_
      refine s_iload dX11_idle_53 rfl ?_
      refine s_icmp_eq (tgt := 71) dX11_idle_55 rfl (fun c1 => ?_) (fun c1 => ?_)
      · have h := o_if_t c1 h
        refine s_iinc (v := (τ35.2 + 1)) dX11_idle_71 rfl rfl (Nat.le_of_ble_eq_true rfl) rfl ?_
        refine s_goto (tgt := 35) dX11_idle_74 rfl ?_
        refine s_mask [true, true, true, true, true] (L' := [some (.ref (o_ad X a0)), some (.int x1), some (.int τ35.1), some (.int x3), some (.int (τ35.2 + 1))]) rfl ?_
        exact kh (τ35.1, (τ35.2 + 1)) _ (o_ret h)
      · have h := o_if_f c1 h
        refine s_iload_n (i := 2) dX11_idle_58 rfl rfl ?_
        refine s_aload_n (i := 0) dX11_idle_59 rfl rfl ?_
        refine s_getR hX h0 flX11_23 rfl dX11_idle_60 (fun (g2 : o_is X (o_rf X a0 4) (.inl 8)) => ?_)
        refine s_iload_n (i := 3) dX11_idle_63 rfl rfl ?_
        refine s_iload dX11_idle_64 rfl ?_
        refine s_callVi (C := mX8_lawsFirstBetween) (As := [.int x3, .int τ35.2]) (rest := [.int τ35.1]) (L0 := [some (.ref (o_ad X (o_rf X a0 4))), some (.int x3), some (.int τ35.2), none, none, none, none]) hX g2 clX11_344 dX11_idle_66 rfl rfl (Nat.le_of_ble_eq_true rfl) (Nat.le_of_ble_eq_true rfl) (dnX8_lawsFirstBetween hX g2 (o_bdp h)) (fun r1 μ1 h => ?_)
        refine s_ior dX11_idle_69 ?_
        refine s_istore_n (i := 2) dX11_idle_70 rfl (Nat.le_of_ble_eq_true rfl) rfl ?_
        refine s_iinc (v := (τ35.2 + 1)) dX11_idle_71 rfl rfl (Nat.le_of_ble_eq_true rfl) rfl ?_
        refine s_goto (tgt := 35) dX11_idle_74 rfl ?_
        refine s_mask [true, true, true, true, true] (L' := [some (.ref (o_ad X a0)), some (.int x1), some (.int (τ35.1 ||| r1)), some (.int x3), some (.int (τ35.2 + 1))]) rfl ?_
        exact kh ((τ35.1 ||| r1), (τ35.2 + 1)) _ (o_ret h)
set_option maxRecDepth 20000 in
theorem dnX11_idle_s16 {X : o_Cx} (hX : o_ok X) {d : Nat} {a0 : Nat} {x1 : Int32} {τ16 : Int32 × Int32} {μ0 : o_Mem} {K : (Nat × (Int32 × Int32)) → o_Mem → Prop} {Q : Option Value → o_Mem → Prop} (h0 : o_is X a0 (.inl 11)) (h : o_Post (fX11_idle_s16 (o_rf X) a0 x1 τ16 μ0) K) (kh : ∀ (τ16 : Int32 × Int32) (μ : o_Mem), K (16, τ16) μ → o_Ev X (d + 3) mX11_idle 16 [some (.ref (o_ad X a0)), some (.int x1), some (.int τ16.1), some (.int τ16.2), none] [] μ Q) (k83 : ∀ (τ16 : Int32 × Int32) (μ : o_Mem), K (83, τ16) μ → o_Ev X (d + 3) mX11_idle 83 [some (.ref (o_ad X a0)), some (.int x1), some (.int τ16.1), none, none] [] μ Q) : o_Ev X (d + 3) mX11_idle 16 [some (.ref (o_ad X a0)), some (.int x1), some (.int τ16.1), some (.int τ16.2), none] [] μ0 Q := by
  unfold fX11_idle_s16 at h
  refine s_iload_n (i := 3) dX11_idle_16 rfl rfl ?_
  refine s_aload_n (i := 0) dX11_idle_17 rfl rfl ?_
  refine s_getR hX h0 flX11_23 rfl dX11_idle_18 (fun (g1 : o_is X (o_rf X a0 4) (.inl 8)) => ?_)
  refine s_getI g1 flX11_209 rfl dX11_idle_21 ?_
  refine s_icmp_ge (tgt := 83) dX11_idle_24 rfl (fun c1 => ?_) (fun c1 => ?_)
  · have h := o_if_t c1 h
    refine s_mask [true, true, true, false, false] (L' := [some (.ref (o_ad X a0)), some (.int x1), some (.int τ16.1), none, none]) rfl ?_
    exact k83 (τ16.1, 0) _ (o_ret h)
  · have h := o_if_f c1 h
    refine s_iload_n (i := 2) dX11_idle_27 rfl rfl ?_
    refine s_iload_n (i := 1) dX11_idle_28 rfl rfl ?_
    refine s_icmp_eq (tgt := 83) dX11_idle_29 rfl (fun c1 => ?_) (fun c1 => ?_)
    · have h := o_if_t c1 h
      refine s_mask [true, true, true, false, false] (L' := [some (.ref (o_ad X a0)), some (.int x1), some (.int τ16.1), none, none]) rfl ?_
      exact k83 (τ16.1, 0) _ (o_ret h)
    · have h := o_if_f c1 h
      refine s_iconst dX11_idle_32 kI_0 ?_
      refine s_istore dX11_idle_33 (Nat.le_of_ble_eq_true rfl) rfl ?_
      refine s_mask [true, true, true, true, true] (L' := [some (.ref (o_ad X a0)), some (.int x1), some (.int τ16.1), some (.int τ16.2), some (.int 0)]) rfl ?_
      refine o_lp_ev (fun τ35 => [some (.ref (o_ad X a0)), some (.int x1), some (.int τ35.1), some (.int τ16.2), some (.int τ35.2)]) (fun τ35 μ _K h kv ke35 => dnX11_idle_s35 hX h0 h kv (fun τ35 μ1 h => ?_)) o_fuel (τ16.1, 0) μ0 (o_bdp h)
      · have h := o_if_t rfl (ke35 (77, τ35) μ1 (o_ne rfl) h)
        refine s_iinc (v := (τ16.2 + 1)) dX11_idle_77 rfl rfl (Nat.le_of_ble_eq_true rfl) rfl ?_
        refine s_goto (tgt := 16) dX11_idle_80 rfl ?_
        refine s_mask [true, true, true, true, false] (L' := [some (.ref (o_ad X a0)), some (.int x1), some (.int τ35.1), some (.int (τ16.2 + 1)), none]) rfl ?_
        exact kh (τ35.1, (τ16.2 + 1)) _ (o_ret h)
set_option maxRecDepth 20000 in
theorem dnX11_idle_j83 {X : o_Cx} (hX : o_ok X) {d : Nat} {a0 : Nat} {x1 : Int32} {x2 : Int32} {μ0 : o_Mem} {q : Int32 → o_Mem → Prop} (h0 : o_is X a0 (.inl 11)) (h : o_Post (fX11_idle_j83 (o_rf X) a0 x1 x2 μ0) q) : o_Ev X (d + 3) mX11_idle 83 [some (.ref (o_ad X a0)), some (.int x1), some (.int x2), none, none] [] μ0 (o_QI q) := by
  unfold fX11_idle_j83 at h
  refine s_aload_n (i := 0) dX11_idle_83 rfl rfl ?_
  refine s_iload_n (i := 1) dX11_idle_84 rfl rfl ?_
  refine s_iload_n (i := 2) dX11_idle_85 rfl rfl ?_
  refine s_iconst dX11_idle_86 kI_m1 ?_
  refine s_ixor dX11_idle_87 ?_
  refine s_iand dX11_idle_88 ?_
  refine s_callVi (C := mX11_gives) (As := [.int (x1 &&& (x2 ^^^ (-1)))]) (rest := []) (L0 := [some (.ref (o_ad X a0)), some (.int (x1 &&& (x2 ^^^ (-1))))]) hX h0 clX11_187 dX11_idle_89 rfl rfl (Nat.le_of_ble_eq_true rfl) (Nat.le_of_ble_eq_true rfl) (dnX11_gives hX h0 (o_bdp h)) (fun r1 μ1 h => ?_)
  exact s_ireturn rfl dX11_idle_92 ⟨_, rfl, o_ret h⟩
set_option maxRecDepth 20000 in
theorem dnX11_idle {X : o_Cx} (hX : o_ok X) {d : Nat} {a0 : Nat} {μ0 : o_Mem} {q : Int32 → o_Mem → Prop} (h0 : o_is X a0 (.inl 11)) (h : o_Post (fX11_idle (o_rf X) a0 μ0) q) : o_Ev X (d + 3) mX11_idle 0 [some (.ref (o_ad X a0)), none, none, none, none] [] μ0 (o_QI q) := by
  unfold fX11_idle at h
  refine s_iconst dX11_idle_0 kI_1 ?_
  refine s_aload_n (i := 0) dX11_idle_1 rfl rfl ?_
  refine s_getR hX h0 flX11_23 rfl dX11_idle_2 (fun (g1 : o_is X (o_rf X a0 4) (.inl 8)) => ?_)
  refine s_getI g1 flX11_184 rfl dX11_idle_5 ?_
  refine s_ishl dX11_idle_8 ?_
  refine s_iconst dX11_idle_9 kI_1 ?_
  refine s_isub dX11_idle_10 ?_
  refine s_istore_n (i := 1) dX11_idle_11 rfl (Nat.le_of_ble_eq_true rfl) rfl ?_
  refine s_iconst dX11_idle_12 kI_0 ?_
  refine s_istore_n (i := 2) dX11_idle_13 rfl (Nat.le_of_ble_eq_true rfl) rfl ?_
  refine s_iconst dX11_idle_14 kI_0 ?_
  refine s_istore_n (i := 3) dX11_idle_15 rfl (Nat.le_of_ble_eq_true rfl) rfl ?_
  refine s_mask [true, true, true, true, false] (L' := [some (.ref (o_ad X a0)), some (.int ((1 <<< ((μ0.1 (o_rf X a0 4) 3) &&& 31)) - 1)), some (.int 0), some (.int 0), none]) rfl ?_
  refine o_lp_ev (fun τ16 => [some (.ref (o_ad X a0)), some (.int ((1 <<< ((μ0.1 (o_rf X a0 4) 3) &&& 31)) - 1)), some (.int τ16.1), some (.int τ16.2), none]) (fun τ16 μ _K h kv ke16 => dnX11_idle_s16 hX h0 h kv (fun τ16 μ1 h => ?_)) o_fuel (0, 0) μ0 (o_bdp h)
  · have h := o_if_t rfl (ke16 (83, τ16) μ1 (o_ne rfl) h)
    refine s_mask [true, true, true, false, false] (L' := [some (.ref (o_ad X a0)), some (.int ((1 <<< ((μ0.1 (o_rf X a0 4) 3) &&& 31)) - 1)), some (.int τ16.1), none, none]) rfl ?_
    exact dnX11_idle_j83 hX h0 h
theorem dX11_isWay_0 : decode cX11_isWay 0 = .ok (.aload_n 0, 1) := by decide +kernel
theorem dX11_isWay_1 : decode cX11_isWay 1 = .ok (.getfield 23, 3) := by decide +kernel
theorem dX11_isWay_4 : decode cX11_isWay 4 = .ok (.iload_n 1, 1) := by decide +kernel
theorem dX11_isWay_5 : decode cX11_isWay 5 = .ok (.invokevirtual 248, 3) := by decide +kernel
theorem dX11_isWay_8 : decode cX11_isWay 8 = .ok (.ifCond .eq 48, 3) := by decide +kernel
theorem dX11_isWay_11 : decode cX11_isWay 11 = .ok (.aload_n 0, 1) := by decide +kernel
theorem dX11_isWay_12 : decode cX11_isWay 12 = .ok (.getfield 23, 3) := by decide +kernel
theorem dX11_isWay_15 : decode cX11_isWay 15 = .ok (.iload_n 2, 1) := by decide +kernel
theorem dX11_isWay_16 : decode cX11_isWay 16 = .ok (.invokevirtual 248, 3) := by decide +kernel
theorem dX11_isWay_19 : decode cX11_isWay 19 = .ok (.ifCond .eq 37, 3) := by decide +kernel
theorem dX11_isWay_22 : decode cX11_isWay 22 = .ok (.iload_n 1, 1) := by decide +kernel
theorem dX11_isWay_23 : decode cX11_isWay 23 = .ok (.iload_n 2, 1) := by decide +kernel
theorem dX11_isWay_24 : decode cX11_isWay 24 = .ok (.if_icmp .eq 32, 3) := by decide +kernel
theorem dX11_isWay_27 : decode cX11_isWay 27 = .ok (.iload_n 3, 1) := by decide +kernel
theorem dX11_isWay_28 : decode cX11_isWay 28 = .ok (.i2l, 1) := by decide +kernel
theorem dX11_isWay_29 : decode cX11_isWay 29 = .ok (.lconst 1, 1) := by decide +kernel
theorem dX11_isWay_30 : decode cX11_isWay 30 = .ok (.ldc2_w 291, 3) := by decide +kernel
theorem dX11_isWay_33 : decode cX11_isWay 33 = .ok (.invokestatic 118, 3) := by decide +kernel
theorem dX11_isWay_36 : decode cX11_isWay 36 = .ok (.ifCond .eq 20, 3) := by decide +kernel
theorem dX11_isWay_39 : decode cX11_isWay 39 = .ok (.aload_n 0, 1) := by decide +kernel
theorem dX11_isWay_40 : decode cX11_isWay 40 = .ok (.getfield 23, 3) := by decide +kernel
theorem dX11_isWay_43 : decode cX11_isWay 43 = .ok (.iload 4, 2) := by decide +kernel
theorem dX11_isWay_45 : decode cX11_isWay 45 = .ok (.i2l, 1) := by decide +kernel
theorem dX11_isWay_46 : decode cX11_isWay 46 = .ok (.invokevirtual 241, 3) := by decide +kernel
theorem dX11_isWay_49 : decode cX11_isWay 49 = .ok (.ifCond .eq 7, 3) := by decide +kernel
theorem dX11_isWay_52 : decode cX11_isWay 52 = .ok (.iconst 1, 1) := by decide +kernel
theorem dX11_isWay_53 : decode cX11_isWay 53 = .ok (.goto 4, 3) := by decide +kernel
theorem dX11_isWay_56 : decode cX11_isWay 56 = .ok (.iconst 0, 1) := by decide +kernel
theorem dX11_isWay_57 : decode cX11_isWay 57 = .ok (.ireturn, 1) := by decide +kernel
noncomputable def fX11_isWay (rf : Nat → Nat → Nat) (a0 : Nat) (x1 : Int32) (x2 : Int32) (x3 : Int32) (x4 : Int32) (μ0 : o_Mem) : Option (Int32 × o_Mem) :=
  o_bd (fX8_isPerson rf (rf a0 4) x1 μ0) fun r1 μ1 =>
  if r1 = 0 then (
    some (0, μ1))
  else (
    o_bd (fX8_isPerson rf (rf a0 4) x2 μ1) fun r2 μ2 =>
    if r2 = 0 then (
      some (0, μ2))
    else (
      if x1 = x2 then (
        some (0, μ2))
      else (
        o_bd (fX11_within rf x3.toInt64 (1 : Int64) (99 : Int64) μ2) fun r3 μ3 =>
        if r3 = 0 then (
          some (0, μ3))
        else (
          o_bd (fX8_isStrike rf (rf a0 4) x4.toInt64 μ3) fun r4 μ4 =>
          if r4 = 0 then (
            some (0, μ4))
          else (
            some (1, μ4))))))
set_option maxRecDepth 20000 in
theorem dnX11_isWay {X : o_Cx} (hX : o_ok X) {d : Nat} {a0 : Nat} {x1 : Int32} {x2 : Int32} {x3 : Int32} {x4 : Int32} {μ0 : o_Mem} {q : Int32 → o_Mem → Prop} (h0 : o_is X a0 (.inl 11)) (h : o_Post (fX11_isWay (o_rf X) a0 x1 x2 x3 x4 μ0) q) : o_Ev X (d + 1) mX11_isWay 0 [some (.ref (o_ad X a0)), some (.int x1), some (.int x2), some (.int x3), some (.int x4)] [] μ0 (o_QZ q) := by
  unfold fX11_isWay at h
  refine s_aload_n (i := 0) dX11_isWay_0 rfl rfl ?_
  refine s_getR hX h0 flX11_23 rfl dX11_isWay_1 (fun (g1 : o_is X (o_rf X a0 4) (.inl 8)) => ?_)
  refine s_iload_n (i := 1) dX11_isWay_4 rfl rfl ?_
  refine s_callVz (C := mX8_isPerson) (As := [.int x1]) (rest := []) (L0 := [some (.ref (o_ad X (o_rf X a0 4))), some (.int x1)]) hX g1 clX11_248 dX11_isWay_5 rfl rfl (Nat.le_of_ble_eq_true rfl) (Nat.le_of_ble_eq_true rfl) (dnX8_isPerson hX g1 (o_bdp h)) (fun r1 μ1 zr1 h => ?_)
  refine s_if_eq (tgt := 56) dX11_isWay_8 rfl (fun c1 => ?_) (fun c1 => ?_)
  · have h := o_if_t c1 h
    refine s_iconst dX11_isWay_56 kI_0 ?_
    exact s_zreturn rfl (Or.inl rfl) dX11_isWay_57 ⟨_, rfl, (Or.inl rfl), o_ret h⟩
  · have h := o_if_f c1 h
    refine s_aload_n (i := 0) dX11_isWay_11 rfl rfl ?_
    refine s_getR hX h0 flX11_23 rfl dX11_isWay_12 (fun (g2 : o_is X (o_rf X a0 4) (.inl 8)) => ?_)
    refine s_iload_n (i := 2) dX11_isWay_15 rfl rfl ?_
    refine s_callVz (C := mX8_isPerson) (As := [.int x2]) (rest := []) (L0 := [some (.ref (o_ad X (o_rf X a0 4))), some (.int x2)]) hX g2 clX11_248 dX11_isWay_16 rfl rfl (Nat.le_of_ble_eq_true rfl) (Nat.le_of_ble_eq_true rfl) (dnX8_isPerson hX g2 (o_bdp h)) (fun r2 μ2 zr2 h => ?_)
    refine s_if_eq (tgt := 56) dX11_isWay_19 rfl (fun c1 => ?_) (fun c1 => ?_)
    · have h := o_if_t c1 h
      refine s_iconst dX11_isWay_56 kI_0 ?_
      exact s_zreturn rfl (Or.inl rfl) dX11_isWay_57 ⟨_, rfl, (Or.inl rfl), o_ret h⟩
    · have h := o_if_f c1 h
      refine s_iload_n (i := 1) dX11_isWay_22 rfl rfl ?_
      refine s_iload_n (i := 2) dX11_isWay_23 rfl rfl ?_
      refine s_icmp_eq (tgt := 56) dX11_isWay_24 rfl (fun c1 => ?_) (fun c1 => ?_)
      · have h := o_if_t c1 h
        refine s_iconst dX11_isWay_56 kI_0 ?_
        exact s_zreturn rfl (Or.inl rfl) dX11_isWay_57 ⟨_, rfl, (Or.inl rfl), o_ret h⟩
      · have h := o_if_f c1 h
        refine s_iload_n (i := 3) dX11_isWay_27 rfl rfl ?_
        refine s_i2l dX11_isWay_28 ?_
        refine s_lconst (v := 1) dX11_isWay_29 rfl ?_
        refine s_ldc2 (v := 99) w_4_186 dX11_isWay_30 ?_
        refine s_callSz (C := mX11_within) (As := [.long x3.toInt64, .long (1 : Int64), .long (99 : Int64)]) (rest := []) (L0 := [some (.long x3.toInt64), none, some (.long (1 : Int64)), none, some (.long (99 : Int64)), none]) clX11_118 dX11_isWay_33 rfl rfl (Nat.le_of_ble_eq_true rfl) (Nat.le_of_ble_eq_true rfl) (dnX11_within hX  (o_bdp h)) (fun r3 μ3 zr3 h => ?_)
        refine s_if_eq (tgt := 56) dX11_isWay_36 rfl (fun c1 => ?_) (fun c1 => ?_)
        · have h := o_if_t c1 h
          refine s_iconst dX11_isWay_56 kI_0 ?_
          exact s_zreturn rfl (Or.inl rfl) dX11_isWay_57 ⟨_, rfl, (Or.inl rfl), o_ret h⟩
        · have h := o_if_f c1 h
          refine s_aload_n (i := 0) dX11_isWay_39 rfl rfl ?_
          refine s_getR hX h0 flX11_23 rfl dX11_isWay_40 (fun (g3 : o_is X (o_rf X a0 4) (.inl 8)) => ?_)
          refine s_iload dX11_isWay_43 rfl ?_
          refine s_i2l dX11_isWay_45 ?_
          refine s_callVz (C := mX8_isStrike) (As := [.long x4.toInt64]) (rest := []) (L0 := [some (.ref (o_ad X (o_rf X a0 4))), some (.long x4.toInt64), none]) hX g3 clX11_241 dX11_isWay_46 rfl rfl (Nat.le_of_ble_eq_true rfl) (Nat.le_of_ble_eq_true rfl) (dnX8_isStrike hX g3 (o_bdp h)) (fun r4 μ4 zr4 h => ?_)
          refine s_if_eq (tgt := 56) dX11_isWay_49 rfl (fun c1 => ?_) (fun c1 => ?_)
          · have h := o_if_t c1 h
            refine s_iconst dX11_isWay_56 kI_0 ?_
            exact s_zreturn rfl (Or.inl rfl) dX11_isWay_57 ⟨_, rfl, (Or.inl rfl), o_ret h⟩
          · have h := o_if_f c1 h
            refine s_iconst dX11_isWay_52 kI_1 ?_
            refine s_goto (tgt := 57) dX11_isWay_53 rfl ?_
            exact s_zreturn rfl (Or.inr rfl) dX11_isWay_57 ⟨_, rfl, (Or.inr rfl), o_ret h⟩
