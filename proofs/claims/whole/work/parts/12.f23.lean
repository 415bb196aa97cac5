theorem dX12_sway_0 : decode cX12_sway 0 = .ok (.aload_n 0, 1) := by decide +kernel
theorem dX12_sway_1 : decode cX12_sway 1 = .ok (.iload_n 1, 1) := by decide +kernel
theorem dX12_sway_2 : decode cX12_sway 2 = .ok (.invokevirtual 293, 3) := by decide +kernel
theorem dX12_sway_5 : decode cX12_sway 5 = .ok (.ifCond .eq 13, 3) := by decide +kernel
theorem dX12_sway_8 : decode cX12_sway 8 = .ok (.aload_n 0, 1) := by decide +kernel
theorem dX12_sway_9 : decode cX12_sway 9 = .ok (.iload_n 1, 1) := by decide +kernel
theorem dX12_sway_10 : decode cX12_sway 10 = .ok (.iconst 1, 1) := by decide +kernel
theorem dX12_sway_11 : decode cX12_sway 11 = .ok (.iadd, 1) := by decide +kernel
theorem dX12_sway_12 : decode cX12_sway 12 = .ok (.invokevirtual 293, 3) := by decide +kernel
theorem dX12_sway_15 : decode cX12_sway 15 = .ok (.ifCond .ne 9, 3) := by decide +kernel
theorem dX12_sway_18 : decode cX12_sway 18 = .ok (.aload_n 0, 1) := by decide +kernel
theorem dX12_sway_19 : decode cX12_sway 19 = .ok (.iconst 1, 1) := by decide +kernel
theorem dX12_sway_20 : decode cX12_sway 20 = .ok (.invokevirtual 94, 3) := by decide +kernel
theorem dX12_sway_23 : decode cX12_sway 23 = .ok (.ireturn, 1) := by decide +kernel
theorem dX12_sway_24 : decode cX12_sway 24 = .ok (.iload_n 1, 1) := by decide +kernel
theorem dX12_sway_25 : decode cX12_sway 25 = .ok (.invokestatic 296, 3) := by decide +kernel
theorem dX12_sway_28 : decode cX12_sway 28 = .ok (.istore_n 2, 1) := by decide +kernel
theorem dX12_sway_29 : decode cX12_sway 29 = .ok (.iload_n 2, 1) := by decide +kernel
theorem dX12_sway_30 : decode cX12_sway 30 = .ok (.iload_n 1, 1) := by decide +kernel
theorem dX12_sway_31 : decode cX12_sway 31 = .ok (.iconst 1, 1) := by decide +kernel
theorem dX12_sway_32 : decode cX12_sway 32 = .ok (.iadd, 1) := by decide +kernel
theorem dX12_sway_33 : decode cX12_sway 33 = .ok (.invokestatic 296, 3) := by decide +kernel
theorem dX12_sway_36 : decode cX12_sway 36 = .ok (.if_icmp .ge 41, 3) := by decide +kernel
theorem dX12_sway_39 : decode cX12_sway 39 = .ok (.aload_n 0, 1) := by decide +kernel
theorem dX12_sway_40 : decode cX12_sway 40 = .ok (.getfield 7, 3) := by decide +kernel
theorem dX12_sway_43 : decode cX12_sway 43 = .ok (.iload_n 2, 1) := by decide +kernel
theorem dX12_sway_44 : decode cX12_sway 44 = .ok (.iaload, 1) := by decide +kernel
theorem dX12_sway_45 : decode cX12_sway 45 = .ok (.istore_n 3, 1) := by decide +kernel
theorem dX12_sway_46 : decode cX12_sway 46 = .ok (.aload_n 0, 1) := by decide +kernel
theorem dX12_sway_47 : decode cX12_sway 47 = .ok (.getfield 7, 3) := by decide +kernel
theorem dX12_sway_50 : decode cX12_sway 50 = .ok (.iload_n 2, 1) := by decide +kernel
theorem dX12_sway_51 : decode cX12_sway 51 = .ok (.aload_n 0, 1) := by decide +kernel
theorem dX12_sway_52 : decode cX12_sway 52 = .ok (.getfield 7, 3) := by decide +kernel
theorem dX12_sway_55 : decode cX12_sway 55 = .ok (.iload_n 2, 1) := by decide +kernel
theorem dX12_sway_56 : decode cX12_sway 56 = .ok (.bipush 6, 2) := by decide +kernel
theorem dX12_sway_58 : decode cX12_sway 58 = .ok (.iadd, 1) := by decide +kernel
theorem dX12_sway_59 : decode cX12_sway 59 = .ok (.iaload, 1) := by decide +kernel
theorem dX12_sway_60 : decode cX12_sway 60 = .ok (.iastore, 1) := by decide +kernel
theorem dX12_sway_61 : decode cX12_sway 61 = .ok (.aload_n 0, 1) := by decide +kernel
theorem dX12_sway_62 : decode cX12_sway 62 = .ok (.getfield 7, 3) := by decide +kernel
theorem dX12_sway_65 : decode cX12_sway 65 = .ok (.iload_n 2, 1) := by decide +kernel
theorem dX12_sway_66 : decode cX12_sway 66 = .ok (.bipush 6, 2) := by decide +kernel
theorem dX12_sway_68 : decode cX12_sway 68 = .ok (.iadd, 1) := by decide +kernel
theorem dX12_sway_69 : decode cX12_sway 69 = .ok (.iload_n 3, 1) := by decide +kernel
theorem dX12_sway_70 : decode cX12_sway 70 = .ok (.iastore, 1) := by decide +kernel
theorem dX12_sway_71 : decode cX12_sway 71 = .ok (.iinc 2 1, 3) := by decide +kernel
theorem dX12_sway_74 : decode cX12_sway 74 = .ok (.goto (-45), 3) := by decide +kernel
theorem dX12_sway_77 : decode cX12_sway 77 = .ok (.aload_n 0, 1) := by decide +kernel
theorem dX12_sway_78 : decode cX12_sway 78 = .ok (.iconst 0, 1) := by decide +kernel
theorem dX12_sway_79 : decode cX12_sway 79 = .ok (.invokevirtual 94, 3) := by decide +kernel
theorem dX12_sway_82 : decode cX12_sway 82 = .ok (.ireturn, 1) := by decide +kernel
noncomputable def fX12_sway_j18 (rf : Nat → Nat → Nat) (a0 : Nat) (μ0 : o_Mem) : Option (Int32 × o_Mem) :=
  o_bd (fX12_is rf a0 1 μ0) fun r1 μ1 =>
  some (r1, μ1)
noncomputable def fX12_sway_s29 (rf : Nat → Nat → Nat) (a0 : Nat) (x1 : Int32) (τ29 : Int32) (μ0 : o_Mem) : Option ((Nat × (Int32)) × o_Mem) :=
  o_bd (fX12_lawRow rf (x1 + 1) μ0) fun r1 μ1 =>
  if r1 ≤ τ29 then (
    some ((77, 0), μ1))
  else (
    o_ck (0 ≤ (τ29).toInt ∧ (τ29).toInt < 3756) <|
    o_ck (0 ≤ ((τ29 + 6)).toInt ∧ ((τ29 + 6)).toInt < 3756) <|
    o_ck (0 ≤ (τ29).toInt ∧ (τ29).toInt < 3756) <|
    o_seq (o_wI μ1 (rf a0 0) τ29.toNatClampNeg (μ1.1 (rf a0 0) ((τ29 + 6)).toNatClampNeg)) fun μ2 =>
    o_ck (0 ≤ ((τ29 + 6)).toInt ∧ ((τ29 + 6)).toInt < 3756) <|
    o_seq (o_wI μ2 (rf a0 0) (((τ29 + 6)).toNatClampNeg) (μ1.1 (rf a0 0) τ29.toNatClampNeg)) fun μ3 =>
    some ((29, (τ29 + 1)), μ3))
noncomputable def fX12_sway (rf : Nat → Nat → Nat) (a0 : Nat) (x1 : Int32) (μ0 : o_Mem) : Option (Int32 × o_Mem) :=
  o_bd (fX12_isLaw rf a0 x1 μ0) fun r1 μ1 =>
  if r1 = 0 then (
    fX12_sway_j18 rf a0 μ1)
  else (
    o_bd (fX12_isLaw rf a0 (x1 + 1) μ1) fun r2 μ2 =>
    if r2 = 0 then (
      fX12_sway_j18 rf a0 μ2)
    else (
      o_bd (fX12_lawRow rf x1 μ2) fun r3 μ3 =>
      o_bd (o_lp 29 (fX12_sway_s29 rf a0 x1) o_fuel (r3 : Int32) μ3) fun ex4 μ4 =>
      if ex4.1 = 77 then (
        o_bd (fX12_is rf a0 0 μ4) fun r4 μ5 =>
        some (r4, μ5))
      else
        none))
set_option maxRecDepth 20000 in
theorem dnX12_sway_j18 {X : o_Cx} (hX : o_ok X) {d : Nat} {a0 : Nat} {μ0 : o_Mem} {q : Int32 → o_Mem → Prop} (h0 : o_is X a0 (.inl 12)) (h : o_Post (fX12_sway_j18 (o_rf X) a0 μ0) q) : o_Ev X (d + 1) mX12_sway 18 [some (.ref (o_ad X a0)), none, none, none] [] μ0 (o_QZ q) := by
  unfold fX12_sway_j18 at h
  refine s_aload_n (i := 0) dX12_sway_18 rfl rfl ?_
  refine s_iconst dX12_sway_19 kI_1 ?_
  refine s_callVz (C := mX12_is) (As := [.int 1]) (rest := []) (L0 := [some (.ref (o_ad X a0)), some (.int 1)]) hX h0 clX12_94 dX12_sway_20 rfl rfl (Nat.le_of_ble_eq_true rfl) (Nat.le_of_ble_eq_true rfl) (dnX12_is hX h0 (o_bdp h)) (fun r1 μ1 zr1 h => ?_)
  exact s_zreturn rfl zr1 dX12_sway_23 ⟨_, rfl, zr1, o_ret h⟩
set_option maxRecDepth 20000 in
theorem dnX12_sway_s29 {X : o_Cx} (hX : o_ok X) {d : Nat} {a0 : Nat} {x1 : Int32} {τ29 : Int32} {μ0 : o_Mem} {K : (Nat × (Int32)) → o_Mem → Prop} {Q : Option Value → o_Mem → Prop} (h0 : o_is X a0 (.inl 12)) (h : o_Post (fX12_sway_s29 (o_rf X) a0 x1 τ29 μ0) K) (kh : ∀ (τ29 : Int32) (μ : o_Mem), K (29, τ29) μ → o_Ev X (d + 1) mX12_sway 29 [some (.ref (o_ad X a0)), some (.int x1), some (.int τ29), none] [] μ Q) (k77 : ∀ (τ29 : Int32) (μ : o_Mem), K (77, τ29) μ → o_Ev X (d + 1) mX12_sway 77 [some (.ref (o_ad X a0)), none, none, none] [] μ Q) : o_Ev X (d + 1) mX12_sway 29 [some (.ref (o_ad X a0)), some (.int x1), some (.int τ29), none] [] μ0 Q := by
  unfold fX12_sway_s29 at h
  refine s_iload_n (i := 2) dX12_sway_29 rfl rfl ?_
  refine s_iload_n (i := 1) dX12_sway_30 rfl rfl ?_
  refine s_iconst dX12_sway_31 kI_1 ?_
  refine s_iadd dX12_sway_32 ?_
  refine s_callSi (C := mX12_lawRow) (As := [.int (x1 + 1)]) (rest := [.int τ29]) (L0 := [some (.int (x1 + 1))]) clX12_296 dX12_sway_33 rfl rfl (Nat.le_of_ble_eq_true rfl) (Nat.le_of_ble_eq_true rfl) (dnX12_lawRow hX  (o_bdp h)) (fun r1 μ1 h => ?_)
  refine s_icmp_ge (tgt := 77) dX12_sway_36 rfl (fun c1 => ?_) (fun c1 => ?_)
  · have h := o_if_t c1 h
    refine s_mask [true, false, false, false] (L' := [some (.ref (o_ad X a0)), none, none, none]) rfl ?_
    exact k77 0 _ (o_ret h)
  · have h := o_if_f c1 h
    refine s_aload_n (i := 0) dX12_sway_39 rfl rfl ?_
    refine s_getR hX h0 flX12_7 rfl dX12_sway_40 (fun (g1 : o_is X (o_rf X a0 0) (.inr (0, 3756))) => ?_)
    refine s_iload_n (i := 2) dX12_sway_43 rfl rfl ?_
    have hc := o_ck_c h
    have h := o_ck_k h
    refine s_ialdK g1 hc rfl dX12_sway_44 ?_
    refine s_istore_n (i := 3) dX12_sway_45 rfl (Nat.le_of_ble_eq_true rfl) rfl ?_
    refine s_aload_n (i := 0) dX12_sway_46 rfl rfl ?_
    refine s_getR hX h0 flX12_7 rfl dX12_sway_47 (fun (g2 : o_is X (o_rf X a0 0) (.inr (0, 3756))) => ?_)
    refine s_iload_n (i := 2) dX12_sway_50 rfl rfl ?_
    refine s_aload_n (i := 0) dX12_sway_51 rfl rfl ?_
    refine s_getR hX h0 flX12_7 rfl dX12_sway_52 (fun (g3 : o_is X (o_rf X a0 0) (.inr (0, 3756))) => ?_)
    refine s_iload_n (i := 2) dX12_sway_55 rfl rfl ?_
    refine s_bipush dX12_sway_56 kB_6 ?_
    refine s_iadd dX12_sway_58 ?_
    have hc := o_ck_c h
    have h := o_ck_k h
    refine s_ialdK g3 hc rfl dX12_sway_59 ?_
    have hc := o_ck_c h
    have h := o_ck_k h
    refine s_iastK hX g2 hc rfl dX12_sway_60 (o_gen h (fun μ2 h => ?_))
    refine s_aload_n (i := 0) dX12_sway_61 rfl rfl ?_
    refine s_getR hX h0 flX12_7 rfl dX12_sway_62 (fun (g4 : o_is X (o_rf X a0 0) (.inr (0, 3756))) => ?_)
    refine s_iload_n (i := 2) dX12_sway_65 rfl rfl ?_
    refine s_bipush dX12_sway_66 kB_6 ?_
    refine s_iadd dX12_sway_68 ?_
    refine s_iload_n (i := 3) dX12_sway_69 rfl rfl ?_
    have hc := o_ck_c h
    have h := o_ck_k h
    refine s_iastK hX g4 hc rfl dX12_sway_70 (o_gen h (fun μ3 h => ?_))
    refine s_iinc (v := (τ29 + 1)) dX12_sway_71 rfl rfl (Nat.le_of_ble_eq_true rfl) rfl ?_
    refine s_goto (tgt := 29) dX12_sway_74 rfl ?_
    refine s_mask [true, true, true, false] (L' := [some (.ref (o_ad X a0)), some (.int x1), some (.int (τ29 + 1)), none]) rfl ?_
    exact kh (τ29 + 1) _ (o_ret h)
set_option maxRecDepth 20000 in
theorem dnX12_sway {X : o_Cx} (hX : o_ok X) {d : Nat} {a0 : Nat} {x1 : Int32} {μ0 : o_Mem} {q : Int32 → o_Mem → Prop} (h0 : o_is X a0 (.inl 12)) (h : o_Post (fX12_sway (o_rf X) a0 x1 μ0) q) : o_Ev X (d + 1) mX12_sway 0 [some (.ref (o_ad X a0)), some (.int x1), none, none] [] μ0 (o_QZ q) := by
  unfold fX12_sway at h
  refine s_aload_n (i := 0) dX12_sway_0 rfl rfl ?_
  refine s_iload_n (i := 1) dX12_sway_1 rfl rfl ?_
  refine s_callVz (C := mX12_isLaw) (As := [.int x1]) (rest := []) (L0 := [some (.ref (o_ad X a0)), some (.int x1)]) hX h0 clX12_293 dX12_sway_2 rfl rfl (Nat.le_of_ble_eq_true rfl) (Nat.le_of_ble_eq_true rfl) (dnX12_isLaw hX h0 (o_bdp h)) (fun r1 μ1 zr1 h => ?_)
  refine s_if_eq (tgt := 18) dX12_sway_5 rfl (fun c1 => ?_) (fun c1 => ?_)
  · have h := o_if_t c1 h
    refine s_mask [true, false, false, false] (L' := [some (.ref (o_ad X a0)), none, none, none]) rfl ?_
    exact dnX12_sway_j18 hX h0 h
  · have h := o_if_f c1 h
    refine s_aload_n (i := 0) dX12_sway_8 rfl rfl ?_
    refine s_iload_n (i := 1) dX12_sway_9 rfl rfl ?_
    refine s_iconst dX12_sway_10 kI_1 ?_
    refine s_iadd dX12_sway_11 ?_
    refine s_callVz (C := mX12_isLaw) (As := [.int (x1 + 1)]) (rest := []) (L0 := [some (.ref (o_ad X a0)), some (.int (x1 + 1))]) hX h0 clX12_293 dX12_sway_12 rfl rfl (Nat.le_of_ble_eq_true rfl) (Nat.le_of_ble_eq_true rfl) (dnX12_isLaw hX h0 (o_bdp h)) (fun r2 μ2 zr2 h => ?_)
    refine s_if_ne (tgt := 24) dX12_sway_15 rfl (fun c1 => ?_) (fun c1 => ?_)
    · have h := o_if_f c1 h
      refine s_iload_n (i := 1) dX12_sway_24 rfl rfl ?_
      refine s_callSi (C := mX12_lawRow) (As := [.int x1]) (rest := []) (L0 := [some (.int x1)]) clX12_296 dX12_sway_25 rfl rfl (Nat.le_of_ble_eq_true rfl) (Nat.le_of_ble_eq_true rfl) (dnX12_lawRow hX  (o_bdp h)) (fun r3 μ3 h => ?_)
      refine s_istore_n (i := 2) dX12_sway_28 rfl (Nat.le_of_ble_eq_true rfl) rfl ?_
      refine s_mask [true, true, true, false] (L' := [some (.ref (o_ad X a0)), some (.int x1), some (.int r3), none]) rfl ?_
      refine o_lp_ev (fun τ29 => [some (.ref (o_ad X a0)), some (.int x1), some (.int τ29), none]) (fun τ29 μ _K h kv ke29 => dnX12_sway_s29 hX h0 h kv (fun τ29 μ4 h => ?_)) o_fuel r3 μ3 (o_bdp h)
      · have h := o_if_t rfl (ke29 (77, τ29) μ4 (o_ne rfl) h)
        refine s_aload_n (i := 0) dX12_sway_77 rfl rfl ?_
        refine s_iconst dX12_sway_78 kI_0 ?_
        refine s_callVz (C := mX12_is) (As := [.int 0]) (rest := []) (L0 := [some (.ref (o_ad X a0)), some (.int 0)]) hX h0 clX12_94 dX12_sway_79 rfl rfl (Nat.le_of_ble_eq_true rfl) (Nat.le_of_ble_eq_true rfl) (dnX12_is hX h0 (o_bdp h)) (fun r4 μ5 zr4 h => ?_)
        exact s_zreturn rfl zr4 dX12_sway_82 ⟨_, rfl, zr4, o_ret h⟩
    · have h := o_if_t c1 h
      refine s_mask [true, false, false, false] (L' := [some (.ref (o_ad X a0)), none, none, none]) rfl ?_
      exact dnX12_sway_j18 hX h0 h
theorem dX12_pub_0 : decode cX12_pub 0 = .ok (.iload_n 1, 1) := by decide +kernel
theorem dX12_pub_1 : decode cX12_pub 1 = .ok (.i2l, 1) := by decide +kernel
theorem dX12_pub_2 : decode cX12_pub 2 = .ok (.lconst 0, 1) := by decide +kernel
theorem dX12_pub_3 : decode cX12_pub 3 = .ok (.ldc2_w 357, 3) := by decide +kernel
theorem dX12_pub_6 : decode cX12_pub 6 = .ok (.invokestatic 348, 3) := by decide +kernel
theorem dX12_pub_9 : decode cX12_pub 9 = .ok (.ifCond .ne 9, 3) := by decide +kernel
theorem dX12_pub_12 : decode cX12_pub 12 = .ok (.aload_n 0, 1) := by decide +kernel
theorem dX12_pub_13 : decode cX12_pub 13 = .ok (.iconst 1, 1) := by decide +kernel
theorem dX12_pub_14 : decode cX12_pub 14 = .ok (.invokevirtual 94, 3) := by decide +kernel
theorem dX12_pub_17 : decode cX12_pub 17 = .ok (.ireturn, 1) := by decide +kernel
theorem dX12_pub_18 : decode cX12_pub 18 = .ok (.aload_n 0, 1) := by decide +kernel
theorem dX12_pub_19 : decode cX12_pub 19 = .ok (.getfield 7, 3) := by decide +kernel
theorem dX12_pub_22 : decode cX12_pub 22 = .ok (.bipush 6, 2) := by decide +kernel
theorem dX12_pub_24 : decode cX12_pub 24 = .ok (.iload_n 1, 1) := by decide +kernel
theorem dX12_pub_25 : decode cX12_pub 25 = .ok (.iastore, 1) := by decide +kernel
theorem dX12_pub_26 : decode cX12_pub 26 = .ok (.aload_n 0, 1) := by decide +kernel
theorem dX12_pub_27 : decode cX12_pub 27 = .ok (.iconst 0, 1) := by decide +kernel
theorem dX12_pub_28 : decode cX12_pub 28 = .ok (.invokevirtual 94, 3) := by decide +kernel
theorem dX12_pub_31 : decode cX12_pub 31 = .ok (.ireturn, 1) := by decide +kernel
noncomputable def fX12_pub (rf : Nat → Nat → Nat) (a0 : Nat) (x1 : Int32) (μ0 : o_Mem) : Option (Int32 × o_Mem) :=
  o_bd (fX12_isFrom rf x1.toInt64 (0 : Int64) (16 : Int64) μ0) fun r1 μ1 =>
  if r1 = 0 then (
    o_bd (fX12_is rf a0 1 μ1) fun r3 μ4 =>
    some (r3, μ4))
  else (
    o_seq (o_wI μ1 (rf a0 0) 6 x1) fun μ2 =>
    o_bd (fX12_is rf a0 0 μ2) fun r2 μ3 =>
    some (r2, μ3))
set_option maxRecDepth 20000 in
theorem dnX12_pub {X : o_Cx} (hX : o_ok X) {d : Nat} {a0 : Nat} {x1 : Int32} {μ0 : o_Mem} {q : Int32 → o_Mem → Prop} (h0 : o_is X a0 (.inl 12)) (h : o_Post (fX12_pub (o_rf X) a0 x1 μ0) q) : o_Ev X (d + 1) mX12_pub 0 [some (.ref (o_ad X a0)), some (.int x1)] [] μ0 (o_QZ q) := by
  unfold fX12_pub at h
  refine s_iload_n (i := 1) dX12_pub_0 rfl rfl ?_
  refine s_i2l dX12_pub_1 ?_
  refine s_lconst (v := 0) dX12_pub_2 rfl ?_
  refine s_ldc2 (v := 16) w_8_127 dX12_pub_3 ?_
  refine s_callSz (C := mX12_isFrom) (As := [.long x1.toInt64, .long (0 : Int64), .long (16 : Int64)]) (rest := []) (L0 := [some (.long x1.toInt64), none, some (.long (0 : Int64)), none, some (.long (16 : Int64)), none]) clX12_348 dX12_pub_6 rfl rfl (Nat.le_of_ble_eq_true rfl) (Nat.le_of_ble_eq_true rfl) (dnX12_isFrom hX  (o_bdp h)) (fun r1 μ1 zr1 h => ?_)
  refine s_if_ne (tgt := 18) dX12_pub_9 rfl (fun c1 => ?_) (fun c1 => ?_)
  · have h := o_if_f c1 h
    refine s_aload_n (i := 0) dX12_pub_18 rfl rfl ?_
    refine s_getR hX h0 flX12_7 rfl dX12_pub_19 (fun (g1 : o_is X (o_rf X a0 0) (.inr (0, 3756))) => ?_)
    refine s_bipush dX12_pub_22 kB_6 ?_
    refine s_iload_n (i := 1) dX12_pub_24 rfl rfl ?_
    refine s_iastK hX g1 ⟨by decide, by decide⟩ kN_6 dX12_pub_25 (o_gen h (fun μ2 h => ?_))
    refine s_aload_n (i := 0) dX12_pub_26 rfl rfl ?_
    refine s_iconst dX12_pub_27 kI_0 ?_
    refine s_callVz (C := mX12_is) (As := [.int 0]) (rest := []) (L0 := [some (.ref (o_ad X a0)), some (.int 0)]) hX h0 clX12_94 dX12_pub_28 rfl rfl (Nat.le_of_ble_eq_true rfl) (Nat.le_of_ble_eq_true rfl) (dnX12_is hX h0 (o_bdp h)) (fun r2 μ3 zr2 h => ?_)
    exact s_zreturn rfl zr2 dX12_pub_31 ⟨_, rfl, zr2, o_ret h⟩
  · have h := o_if_t c1 h
    refine s_aload_n (i := 0) dX12_pub_12 rfl rfl ?_
    refine s_iconst dX12_pub_13 kI_1 ?_
    refine s_callVz (C := mX12_is) (As := [.int 1]) (rest := []) (L0 := [some (.ref (o_ad X a0)), some (.int 1)]) hX h0 clX12_94 dX12_pub_14 rfl rfl (Nat.le_of_ble_eq_true rfl) (Nat.le_of_ble_eq_true rfl) (dnX12_is hX h0 (o_bdp h)) (fun r3 μ4 zr3 h => ?_)
    exact s_zreturn rfl zr3 dX12_pub_17 ⟨_, rfl, zr3, o_ret h⟩
theorem dX12_lawOf_0 : decode cX12_lawOf 0 = .ok (.aload_n 0, 1) := by decide +kernel
theorem dX12_lawOf_1 : decode cX12_lawOf 1 = .ok (.iload_n 1, 1) := by decide +kernel
theorem dX12_lawOf_2 : decode cX12_lawOf 2 = .ok (.iload_n 2, 1) := by decide +kernel
theorem dX12_lawOf_3 : decode cX12_lawOf 3 = .ok (.iload_n 3, 1) := by decide +kernel
theorem dX12_lawOf_4 : decode cX12_lawOf 4 = .ok (.iload 4, 2) := by decide +kernel
theorem dX12_lawOf_6 : decode cX12_lawOf 6 = .ok (.invokevirtual 331, 3) := by decide +kernel
theorem dX12_lawOf_9 : decode cX12_lawOf 9 = .ok (.ifCond .eq 19, 3) := by decide +kernel
theorem dX12_lawOf_12 : decode cX12_lawOf 12 = .ok (.aload_n 0, 1) := by decide +kernel
theorem dX12_lawOf_13 : decode cX12_lawOf 13 = .ok (.aload_n 0, 1) := by decide +kernel
theorem dX12_lawOf_14 : decode cX12_lawOf 14 = .ok (.iload_n 1, 1) := by decide +kernel
theorem dX12_lawOf_15 : decode cX12_lawOf 15 = .ok (.iload_n 2, 1) := by decide +kernel
theorem dX12_lawOf_16 : decode cX12_lawOf 16 = .ok (.iload_n 3, 1) := by decide +kernel
theorem dX12_lawOf_17 : decode cX12_lawOf 17 = .ok (.iload 4, 2) := by decide +kernel
theorem dX12_lawOf_19 : decode cX12_lawOf 19 = .ok (.invokevirtual 318, 3) := by decide +kernel
theorem dX12_lawOf_22 : decode cX12_lawOf 22 = .ok (.invokevirtual 299, 3) := by decide +kernel
theorem dX12_lawOf_25 : decode cX12_lawOf 25 = .ok (.goto 8, 3) := by decide +kernel
theorem dX12_lawOf_28 : decode cX12_lawOf 28 = .ok (.aload_n 0, 1) := by decide +kernel
theorem dX12_lawOf_29 : decode cX12_lawOf 29 = .ok (.iconst 1, 1) := by decide +kernel
theorem dX12_lawOf_30 : decode cX12_lawOf 30 = .ok (.invokevirtual 87, 3) := by decide +kernel
theorem dX12_lawOf_33 : decode cX12_lawOf 33 = .ok (.ireturn, 1) := by decide +kernel
noncomputable def fX12_lawOf (rf : Nat → Nat → Nat) (a0 : Nat) (x1 : Int32) (x2 : Int32) (x3 : Int32) (x4 : Int32) (μ0 : o_Mem) : Option (Int32 × o_Mem) :=
  o_bd (fX12_isMail rf a0 x1 x2 x3 x4 μ0) fun r1 μ1 =>
  if r1 = 0 then (
    o_bd (fX12_refuse rf a0 1 μ1) fun r2 μ2 =>
    some (r2, μ2))
  else (
    o_bd (fX12_firstLaw rf a0 x1 x2 x3 x4 μ1) fun r3 μ3 =>
    o_bd (fX12_orNone rf a0 r3 μ3) fun r4 μ4 =>
    some (r4, μ4))
set_option maxRecDepth 20000 in
theorem dnX12_lawOf {X : o_Cx} (hX : o_ok X) {d : Nat} {a0 : Nat} {x1 : Int32} {x2 : Int32} {x3 : Int32} {x4 : Int32} {μ0 : o_Mem} {q : Int32 → o_Mem → Prop} (h0 : o_is X a0 (.inl 12)) (h : o_Post (fX12_lawOf (o_rf X) a0 x1 x2 x3 x4 μ0) q) : o_Ev X (d + 3) mX12_lawOf 0 [some (.ref (o_ad X a0)), some (.int x1), some (.int x2), some (.int x3), some (.int x4)] [] μ0 (o_QI q) := by
  unfold fX12_lawOf at h
  refine s_aload_n (i := 0) dX12_lawOf_0 rfl rfl ?_
  refine s_iload_n (i := 1) dX12_lawOf_1 rfl rfl ?_
  refine s_iload_n (i := 2) dX12_lawOf_2 rfl rfl ?_
  refine s_iload_n (i := 3) dX12_lawOf_3 rfl rfl ?_
  refine s_iload dX12_lawOf_4 rfl ?_
  refine s_callVz (C := mX12_isMail) (As := [.int x1, .int x2, .int x3, .int x4]) (rest := []) (L0 := [some (.ref (o_ad X a0)), some (.int x1), some (.int x2), some (.int x3), some (.int x4)]) hX h0 clX12_331 dX12_lawOf_6 rfl rfl (Nat.le_of_ble_eq_true rfl) (Nat.le_of_ble_eq_true rfl) (dnX12_isMail hX h0 (o_bdp h)) (fun r1 μ1 zr1 h => ?_)
  refine s_if_eq (tgt := 28) dX12_lawOf_9 rfl (fun c1 => ?_) (fun c1 => ?_)
  · have h := o_if_t c1 h
    refine s_aload_n (i := 0) dX12_lawOf_28 rfl rfl ?_
    refine s_iconst dX12_lawOf_29 kI_1 ?_
    refine s_callVi (C := mX12_refuse) (As := [.int 1]) (rest := []) (L0 := [some (.ref (o_ad X a0)), some (.int 1)]) hX h0 clX12_87 dX12_lawOf_30 rfl rfl (Nat.le_of_ble_eq_true rfl) (Nat.le_of_ble_eq_true rfl) (dnX12_refuse hX h0 (o_bdp h)) (fun r2 μ2 h => ?_)
    exact s_ireturn rfl dX12_lawOf_33 ⟨_, rfl, o_ret h⟩
  · have h := o_if_f c1 h
    refine s_aload_n (i := 0) dX12_lawOf_12 rfl rfl ?_
    refine s_aload_n (i := 0) dX12_lawOf_13 rfl rfl ?_
    refine s_iload_n (i := 1) dX12_lawOf_14 rfl rfl ?_
    refine s_iload_n (i := 2) dX12_lawOf_15 rfl rfl ?_
    refine s_iload_n (i := 3) dX12_lawOf_16 rfl rfl ?_
    refine s_iload dX12_lawOf_17 rfl ?_
    refine s_callVi (C := mX12_firstLaw) (As := [.int x1, .int x2, .int x3, .int x4]) (rest := [.ref (o_ad X a0)]) (L0 := [some (.ref (o_ad X a0)), some (.int x1), some (.int x2), some (.int x3), some (.int x4), none]) hX h0 clX12_318 dX12_lawOf_19 rfl rfl (Nat.le_of_ble_eq_true rfl) (Nat.le_of_ble_eq_true rfl) (dnX12_firstLaw hX h0 (o_bdp h)) (fun r3 μ3 h => ?_)
    refine s_callVi (C := mX12_orNone) (As := [.int r3]) (rest := []) (L0 := [some (.ref (o_ad X a0)), some (.int r3)]) hX h0 clX12_299 dX12_lawOf_22 rfl rfl (Nat.le_of_ble_eq_true rfl) (Nat.le_of_ble_eq_true rfl) (dnX12_orNone hX h0 (o_bdp h)) (fun r4 μ4 h => ?_)
    refine s_goto (tgt := 33) dX12_lawOf_25 rfl ?_
    exact s_ireturn rfl dX12_lawOf_33 ⟨_, rfl, o_ret h⟩
theorem dX12_strikeOf_0 : decode cX12_strikeOf 0 = .ok (.aload_n 0, 1) := by decide +kernel
theorem dX12_strikeOf_1 : decode cX12_strikeOf 1 = .ok (.iload_n 1, 1) := by decide +kernel
theorem dX12_strikeOf_2 : decode cX12_strikeOf 2 = .ok (.iload_n 2, 1) := by decide +kernel
theorem dX12_strikeOf_3 : decode cX12_strikeOf 3 = .ok (.iload_n 3, 1) := by decide +kernel
theorem dX12_strikeOf_4 : decode cX12_strikeOf 4 = .ok (.iload 4, 2) := by decide +kernel
theorem dX12_strikeOf_6 : decode cX12_strikeOf 6 = .ok (.invokevirtual 331, 3) := by decide +kernel
theorem dX12_strikeOf_9 : decode cX12_strikeOf 9 = .ok (.ifCond .eq 19, 3) := by decide +kernel
theorem dX12_strikeOf_12 : decode cX12_strikeOf 12 = .ok (.aload_n 0, 1) := by decide +kernel
theorem dX12_strikeOf_13 : decode cX12_strikeOf 13 = .ok (.aload_n 0, 1) := by decide +kernel
theorem dX12_strikeOf_14 : decode cX12_strikeOf 14 = .ok (.iload_n 1, 1) := by decide +kernel
theorem dX12_strikeOf_15 : decode cX12_strikeOf 15 = .ok (.iload_n 2, 1) := by decide +kernel
theorem dX12_strikeOf_16 : decode cX12_strikeOf 16 = .ok (.iload_n 3, 1) := by decide +kernel
theorem dX12_strikeOf_17 : decode cX12_strikeOf 17 = .ok (.iload 4, 2) := by decide +kernel
theorem dX12_strikeOf_19 : decode cX12_strikeOf 19 = .ok (.invokevirtual 325, 3) := by decide +kernel
theorem dX12_strikeOf_22 : decode cX12_strikeOf 22 = .ok (.invokevirtual 299, 3) := by decide +kernel
theorem dX12_strikeOf_25 : decode cX12_strikeOf 25 = .ok (.goto 8, 3) := by decide +kernel
theorem dX12_strikeOf_28 : decode cX12_strikeOf 28 = .ok (.aload_n 0, 1) := by decide +kernel
theorem dX12_strikeOf_29 : decode cX12_strikeOf 29 = .ok (.iconst 1, 1) := by decide +kernel
theorem dX12_strikeOf_30 : decode cX12_strikeOf 30 = .ok (.invokevirtual 87, 3) := by decide +kernel
theorem dX12_strikeOf_33 : decode cX12_strikeOf 33 = .ok (.ireturn, 1) := by decide +kernel
noncomputable def fX12_strikeOf (rf : Nat → Nat → Nat) (a0 : Nat) (x1 : Int32) (x2 : Int32) (x3 : Int32) (x4 : Int32) (μ0 : o_Mem) : Option (Int32 × o_Mem) :=
  o_bd (fX12_isMail rf a0 x1 x2 x3 x4 μ0) fun r1 μ1 =>
  if r1 = 0 then (
    o_bd (fX12_refuse rf a0 1 μ1) fun r2 μ2 =>
    some (r2, μ2))
  else (
    o_bd (fX12_sober rf a0 x1 x2 x3 x4 μ1) fun r3 μ3 =>
    o_bd (fX12_orNone rf a0 r3 μ3) fun r4 μ4 =>
    some (r4, μ4))
set_option maxRecDepth 20000 in
theorem dnX12_strikeOf {X : o_Cx} (hX : o_ok X) {d : Nat} {a0 : Nat} {x1 : Int32} {x2 : Int32} {x3 : Int32} {x4 : Int32} {μ0 : o_Mem} {q : Int32 → o_Mem → Prop} (h0 : o_is X a0 (.inl 12)) (h : o_Post (fX12_strikeOf (o_rf X) a0 x1 x2 x3 x4 μ0) q) : o_Ev X (d + 4) mX12_strikeOf 0 [some (.ref (o_ad X a0)), some (.int x1), some (.int x2), some (.int x3), some (.int x4)] [] μ0 (o_QI q) := by
  unfold fX12_strikeOf at h
  refine s_aload_n (i := 0) dX12_strikeOf_0 rfl rfl ?_
  refine s_iload_n (i := 1) dX12_strikeOf_1 rfl rfl ?_
  refine s_iload_n (i := 2) dX12_strikeOf_2 rfl rfl ?_
  refine s_iload_n (i := 3) dX12_strikeOf_3 rfl rfl ?_
  refine s_iload dX12_strikeOf_4 rfl ?_
  refine s_callVz (C := mX12_isMail) (As := [.int x1, .int x2, .int x3, .int x4]) (rest := []) (L0 := [some (.ref (o_ad X a0)), some (.int x1), some (.int x2), some (.int x3), some (.int x4)]) hX h0 clX12_331 dX12_strikeOf_6 rfl rfl (Nat.le_of_ble_eq_true rfl) (Nat.le_of_ble_eq_true rfl) (dnX12_isMail hX h0 (o_bdp h)) (fun r1 μ1 zr1 h => ?_)
  refine s_if_eq (tgt := 28) dX12_strikeOf_9 rfl (fun c1 => ?_) (fun c1 => ?_)
  · have h := o_if_t c1 h
    refine s_aload_n (i := 0) dX12_strikeOf_28 rfl rfl ?_
    refine s_iconst dX12_strikeOf_29 kI_1 ?_
    refine s_callVi (C := mX12_refuse) (As := [.int 1]) (rest := []) (L0 := [some (.ref (o_ad X a0)), some (.int 1)]) hX h0 clX12_87 dX12_strikeOf_30 rfl rfl (Nat.le_of_ble_eq_true rfl) (Nat.le_of_ble_eq_true rfl) (dnX12_refuse hX h0 (o_bdp h)) (fun r2 μ2 h => ?_)
    exact s_ireturn rfl dX12_strikeOf_33 ⟨_, rfl, o_ret h⟩
  · have h := o_if_f c1 h
    refine s_aload_n (i := 0) dX12_strikeOf_12 rfl rfl ?_
    refine s_aload_n (i := 0) dX12_strikeOf_13 rfl rfl ?_
    refine s_iload_n (i := 1) dX12_strikeOf_14 rfl rfl ?_
    refine s_iload_n (i := 2) dX12_strikeOf_15 rfl rfl ?_
    refine s_iload_n (i := 3) dX12_strikeOf_16 rfl rfl ?_
    refine s_iload dX12_strikeOf_17 rfl ?_
    refine s_callVi (C := mX12_sober) (As := [.int x1, .int x2, .int x3, .int x4]) (rest := [.ref (o_ad X a0)]) (L0 := [some (.ref (o_ad X a0)), some (.int x1), some (.int x2), some (.int x3), some (.int x4)]) hX h0 clX12_325 dX12_strikeOf_19 rfl rfl (Nat.le_of_ble_eq_true rfl) (Nat.le_of_ble_eq_true rfl) (dnX12_sober hX h0 (o_bdp h)) (fun r3 μ3 h => ?_)
    refine s_callVi (C := mX12_orNone) (As := [.int r3]) (rest := []) (L0 := [some (.ref (o_ad X a0)), some (.int r3)]) hX h0 clX12_299 dX12_strikeOf_22 rfl rfl (Nat.le_of_ble_eq_true rfl) (Nat.le_of_ble_eq_true rfl) (dnX12_orNone hX h0 (o_bdp h)) (fun r4 μ4 h => ?_)
    refine s_goto (tgt := 33) dX12_strikeOf_25 rfl ?_
    exact s_ireturn rfl dX12_strikeOf_33 ⟨_, rfl, o_ret h⟩
theorem dX12_struckNow_0 : decode cX12_struckNow 0 = .ok (.aload_n 0, 1) := by decide +kernel
theorem dX12_struckNow_1 : decode cX12_struckNow 1 = .ok (.iload_n 1, 1) := by decide +kernel
theorem dX12_struckNow_2 : decode cX12_struckNow 2 = .ok (.iload_n 2, 1) := by decide +kernel
theorem dX12_struckNow_3 : decode cX12_struckNow 3 = .ok (.iload_n 3, 1) := by decide +kernel
theorem dX12_struckNow_4 : decode cX12_struckNow 4 = .ok (.iload 4, 2) := by decide +kernel
theorem dX12_struckNow_6 : decode cX12_struckNow 6 = .ok (.invokevirtual 331, 3) := by decide +kernel
theorem dX12_struckNow_9 : decode cX12_struckNow 9 = .ok (.ifCond .eq 19, 3) := by decide +kernel
theorem dX12_struckNow_12 : decode cX12_struckNow 12 = .ok (.aload_n 0, 1) := by decide +kernel
theorem dX12_struckNow_13 : decode cX12_struckNow 13 = .ok (.aload_n 0, 1) := by decide +kernel
theorem dX12_struckNow_14 : decode cX12_struckNow 14 = .ok (.iload_n 1, 1) := by decide +kernel
theorem dX12_struckNow_15 : decode cX12_struckNow 15 = .ok (.iload_n 2, 1) := by decide +kernel
theorem dX12_struckNow_16 : decode cX12_struckNow 16 = .ok (.iload_n 3, 1) := by decide +kernel
theorem dX12_struckNow_17 : decode cX12_struckNow 17 = .ok (.iload 4, 2) := by decide +kernel
theorem dX12_struckNow_19 : decode cX12_struckNow 19 = .ok (.invokevirtual 339, 3) := by decide +kernel
theorem dX12_struckNow_22 : decode cX12_struckNow 22 = .ok (.invokevirtual 299, 3) := by decide +kernel
theorem dX12_struckNow_25 : decode cX12_struckNow 25 = .ok (.goto 8, 3) := by decide +kernel
theorem dX12_struckNow_28 : decode cX12_struckNow 28 = .ok (.aload_n 0, 1) := by decide +kernel
theorem dX12_struckNow_29 : decode cX12_struckNow 29 = .ok (.iconst 1, 1) := by decide +kernel
theorem dX12_struckNow_30 : decode cX12_struckNow 30 = .ok (.invokevirtual 87, 3) := by decide +kernel
theorem dX12_struckNow_33 : decode cX12_struckNow 33 = .ok (.ireturn, 1) := by decide +kernel
noncomputable def fX12_struckNow (rf : Nat → Nat → Nat) (a0 : Nat) (x1 : Int32) (x2 : Int32) (x3 : Int32) (x4 : Int32) (μ0 : o_Mem) : Option (Int32 × o_Mem) :=
  o_bd (fX12_isMail rf a0 x1 x2 x3 x4 μ0) fun r1 μ1 =>
  if r1 = 0 then (
    o_bd (fX12_refuse rf a0 1 μ1) fun r2 μ2 =>
    some (r2, μ2))
  else (
    o_bd (fX12_struck rf a0 x1 x2 x3 x4 μ1) fun r3 μ3 =>
    o_bd (fX12_orNone rf a0 r3 μ3) fun r4 μ4 =>
    some (r4, μ4))
set_option maxRecDepth 20000 in
theorem dnX12_struckNow {X : o_Cx} (hX : o_ok X) {d : Nat} {a0 : Nat} {x1 : Int32} {x2 : Int32} {x3 : Int32} {x4 : Int32} {μ0 : o_Mem} {q : Int32 → o_Mem → Prop} (h0 : o_is X a0 (.inl 12)) (h : o_Post (fX12_struckNow (o_rf X) a0 x1 x2 x3 x4 μ0) q) : o_Ev X (d + 5) mX12_struckNow 0 [some (.ref (o_ad X a0)), some (.int x1), some (.int x2), some (.int x3), some (.int x4)] [] μ0 (o_QI q) := by
  unfold fX12_struckNow at h
  refine s_aload_n (i := 0) dX12_struckNow_0 rfl rfl ?_
  refine s_iload_n (i := 1) dX12_struckNow_1 rfl rfl ?_
  refine s_iload_n (i := 2) dX12_struckNow_2 rfl rfl ?_
  refine s_iload_n (i := 3) dX12_struckNow_3 rfl rfl ?_
  refine s_iload dX12_struckNow_4 rfl ?_
  refine s_callVz (C := mX12_isMail) (As := [.int x1, .int x2, .int x3, .int x4]) (rest := []) (L0 := [some (.ref (o_ad X a0)), some (.int x1), some (.int x2), some (.int x3), some (.int x4)]) hX h0 clX12_331 dX12_struckNow_6 rfl rfl (Nat.le_of_ble_eq_true rfl) (Nat.le_of_ble_eq_true rfl) (dnX12_isMail hX h0 (o_bdp h)) (fun r1 μ1 zr1 h => ?_)
  refine s_if_eq (tgt := 28) dX12_struckNow_9 rfl (fun c1 => ?_) (fun c1 => ?_)
  · have h := o_if_t c1 h
    refine s_aload_n (i := 0) dX12_struckNow_28 rfl rfl ?_
    refine s_iconst dX12_struckNow_29 kI_1 ?_
    refine s_callVi (C := mX12_refuse) (As := [.int 1]) (rest := []) (L0 := [some (.ref (o_ad X a0)), some (.int 1)]) hX h0 clX12_87 dX12_struckNow_30 rfl rfl (Nat.le_of_ble_eq_true rfl) (Nat.le_of_ble_eq_true rfl) (dnX12_refuse hX h0 (o_bdp h)) (fun r2 μ2 h => ?_)
    exact s_ireturn rfl dX12_struckNow_33 ⟨_, rfl, o_ret h⟩
  · have h := o_if_f c1 h
    refine s_aload_n (i := 0) dX12_struckNow_12 rfl rfl ?_
    refine s_aload_n (i := 0) dX12_struckNow_13 rfl rfl ?_
    refine s_iload_n (i := 1) dX12_struckNow_14 rfl rfl ?_
    refine s_iload_n (i := 2) dX12_struckNow_15 rfl rfl ?_
    refine s_iload_n (i := 3) dX12_struckNow_16 rfl rfl ?_
    refine s_iload dX12_struckNow_17 rfl ?_
    refine s_callVi (C := mX12_struck) (As := [.int x1, .int x2, .int x3, .int x4]) (rest := [.ref (o_ad X a0)]) (L0 := [some (.ref (o_ad X a0)), some (.int x1), some (.int x2), some (.int x3), some (.int x4), none]) hX h0 clX12_339 dX12_struckNow_19 rfl rfl (Nat.le_of_ble_eq_true rfl) (Nat.le_of_ble_eq_true rfl) (dnX12_struck hX h0 (o_bdp h)) (fun r3 μ3 h => ?_)
    refine s_callVi (C := mX12_orNone) (As := [.int r3]) (rest := []) (L0 := [some (.ref (o_ad X a0)), some (.int r3)]) hX h0 clX12_299 dX12_struckNow_22 rfl rfl (Nat.le_of_ble_eq_true rfl) (Nat.le_of_ble_eq_true rfl) (dnX12_orNone hX h0 (o_bdp h)) (fun r4 μ4 h => ?_)
    refine s_goto (tgt := 33) dX12_struckNow_25 rfl ?_
    exact s_ireturn rfl dX12_struckNow_33 ⟨_, rfl, o_ret h⟩
theorem dX12_lawsOf_0 : decode cX12_lawsOf 0 = .ok (.aload_n 0, 1) := by decide +kernel
theorem dX12_lawsOf_1 : decode cX12_lawsOf 1 = .ok (.iload_n 1, 1) := by decide +kernel
theorem dX12_lawsOf_2 : decode cX12_lawsOf 2 = .ok (.iload_n 2, 1) := by decide +kernel
theorem dX12_lawsOf_3 : decode cX12_lawsOf 3 = .ok (.iload_n 3, 1) := by decide +kernel
theorem dX12_lawsOf_4 : decode cX12_lawsOf 4 = .ok (.iload 4, 2) := by decide +kernel
theorem dX12_lawsOf_6 : decode cX12_lawsOf 6 = .ok (.invokevirtual 331, 3) := by decide +kernel
theorem dX12_lawsOf_9 : decode cX12_lawsOf 9 = .ok (.ifCond .ne 9, 3) := by decide +kernel
theorem dX12_lawsOf_12 : decode cX12_lawsOf 12 = .ok (.aload_n 0, 1) := by decide +kernel
theorem dX12_lawsOf_13 : decode cX12_lawsOf 13 = .ok (.iconst 1, 1) := by decide +kernel
theorem dX12_lawsOf_14 : decode cX12_lawsOf 14 = .ok (.invokevirtual 87, 3) := by decide +kernel
theorem dX12_lawsOf_17 : decode cX12_lawsOf 17 = .ok (.ireturn, 1) := by decide +kernel
theorem dX12_lawsOf_18 : decode cX12_lawsOf 18 = .ok (.iconst 0, 1) := by decide +kernel
theorem dX12_lawsOf_19 : decode cX12_lawsOf 19 = .ok (.istore 5, 2) := by decide +kernel
theorem dX12_lawsOf_21 : decode cX12_lawsOf 21 = .ok (.iconst 0, 1) := by decide +kernel
theorem dX12_lawsOf_22 : decode cX12_lawsOf 22 = .ok (.istore 6, 2) := by decide +kernel
theorem dX12_lawsOf_24 : decode cX12_lawsOf 24 = .ok (.iload 6, 2) := by decide +kernel
theorem dX12_lawsOf_26 : decode cX12_lawsOf 26 = .ok (.aload_n 0, 1) := by decide +kernel
theorem dX12_lawsOf_27 : decode cX12_lawsOf 27 = .ok (.getfield 7, 3) := by decide +kernel
theorem dX12_lawsOf_30 : decode cX12_lawsOf 30 = .ok (.iconst 3, 1) := by decide +kernel
theorem dX12_lawsOf_31 : decode cX12_lawsOf 31 = .ok (.iaload, 1) := by decide +kernel
theorem dX12_lawsOf_32 : decode cX12_lawsOf 32 = .ok (.if_icmp .ge 36, 3) := by decide +kernel
theorem dX12_lawsOf_35 : decode cX12_lawsOf 35 = .ok (.iload 5, 2) := by decide +kernel
theorem dX12_lawsOf_37 : decode cX12_lawsOf 37 = .ok (.aload_n 0, 1) := by decide +kernel
theorem dX12_lawsOf_38 : decode cX12_lawsOf 38 = .ok (.iload 6, 2) := by decide +kernel
theorem dX12_lawsOf_40 : decode cX12_lawsOf 40 = .ok (.iload_n 1, 1) := by decide +kernel
theorem dX12_lawsOf_41 : decode cX12_lawsOf 41 = .ok (.iload_n 2, 1) := by decide +kernel
theorem dX12_lawsOf_42 : decode cX12_lawsOf 42 = .ok (.iload_n 3, 1) := by decide +kernel
theorem dX12_lawsOf_43 : decode cX12_lawsOf 43 = .ok (.iload 4, 2) := by decide +kernel
theorem dX12_lawsOf_45 : decode cX12_lawsOf 45 = .ok (.invokevirtual 314, 3) := by decide +kernel
theorem dX12_lawsOf_48 : decode cX12_lawsOf 48 = .ok (.ifCond .eq 10, 3) := by decide +kernel
theorem dX12_lawsOf_51 : decode cX12_lawsOf 51 = .ok (.iconst 1, 1) := by decide +kernel
theorem dX12_lawsOf_52 : decode cX12_lawsOf 52 = .ok (.iload 6, 2) := by decide +kernel
theorem dX12_lawsOf_54 : decode cX12_lawsOf 54 = .ok (.ishl, 1) := by decide +kernel
theorem dX12_lawsOf_55 : decode cX12_lawsOf 55 = .ok (.goto 4, 3) := by decide +kernel
theorem dX12_lawsOf_58 : decode cX12_lawsOf 58 = .ok (.iconst 0, 1) := by decide +kernel
theorem dX12_lawsOf_59 : decode cX12_lawsOf 59 = .ok (.ior, 1) := by decide +kernel
theorem dX12_lawsOf_60 : decode cX12_lawsOf 60 = .ok (.istore 5, 2) := by decide +kernel
theorem dX12_lawsOf_62 : decode cX12_lawsOf 62 = .ok (.iinc 6 1, 3) := by decide +kernel
theorem dX12_lawsOf_65 : decode cX12_lawsOf 65 = .ok (.goto (-41), 3) := by decide +kernel
theorem dX12_lawsOf_68 : decode cX12_lawsOf 68 = .ok (.aload_n 0, 1) := by decide +kernel
theorem dX12_lawsOf_69 : decode cX12_lawsOf 69 = .ok (.iload 5, 2) := by decide +kernel
theorem dX12_lawsOf_71 : decode cX12_lawsOf 71 = .ok (.invokevirtual 91, 3) := by decide +kernel
theorem dX12_lawsOf_74 : decode cX12_lawsOf 74 = .ok (.ireturn, 1) := by decide +kernel
noncomputable def fX12_lawsOf_j59 (rf : Nat → Nat → Nat) (a0 : Nat) (x1 : Int32) (x2 : Int32) (x3 : Int32) (x4 : Int32) (x6 : Int32) (y0 : Int32) (y1 : Int32) (μ0 : o_Mem) : Option ((Nat × (Int32 × Int32)) × o_Mem) :=
  some ((24, ((y0 ||| y1), (x6 + 1))), μ0)
noncomputable def fX12_lawsOf_s24 (rf : Nat → Nat → Nat) (a0 : Nat) (x1 : Int32) (x2 : Int32) (x3 : Int32) (x4 : Int32) (τ24 : Int32 × Int32) (μ0 : o_Mem) : Option ((Nat × (Int32 × Int32)) × o_Mem) :=
  if (μ0.1 (rf a0 0) 3) ≤ τ24.2 then (
    some ((68, (τ24.1, 0)), μ0))
  else (
    o_bd (fX12_doesFit rf a0 τ24.2 x1 x2 x3 x4 μ0) fun r1 μ1 =>
    if r1 = 0 then (
      fX12_lawsOf_j59 rf a0 x1 x2 x3 x4 τ24.2 τ24.1 0 μ1)
    else (
      fX12_lawsOf_j59 rf a0 x1 x2 x3 x4 τ24.2 τ24.1 (1 <<< (τ24.2 &&& 31)) μ1))
noncomputable def fX12_lawsOf (rf : Nat → Nat → Nat) (a0 : Nat) (x1 : Int32) (x2 : Int32) (x3 : Int32) (x4 : Int32) (μ0 : o_Mem) : Option (Int32 × o_Mem) :=
  o_bd (fX12_isMail rf a0 x1 x2 x3 x4 μ0) fun r1 μ1 =>
  if r1 = 0 then (
    o_bd (fX12_refuse rf a0 1 μ1) fun r3 μ4 =>
    some (r3, μ4))
  else (
    o_bd (o_lp 24 (fX12_lawsOf_s24 rf a0 x1 x2 x3 x4) o_fuel (0, 0) μ1) fun ex2 μ2 =>
    if ex2.1 = 68 then (
      o_bd (fX12_gives rf a0 ex2.2.1 μ2) fun r2 μ3 =>
      some (r2, μ3))
    else
      none)
set_option maxRecDepth 20000 in
theorem dnX12_lawsOf_j59 {X : o_Cx} (hX : o_ok X) {d : Nat} {a0 : Nat} {x1 : Int32} {x2 : Int32} {x3 : Int32} {x4 : Int32} {x6 : Int32} {y0 : Int32} {y1 : Int32} {μ0 : o_Mem} {K : (Nat × (Int32 × Int32)) → o_Mem → Prop} {Q : Option Value → o_Mem → Prop} (h0 : o_is X a0 (.inl 12)) (h : o_Post (fX12_lawsOf_j59 (o_rf X) a0 x1 x2 x3 x4 x6 y0 y1 μ0) K) (kh : ∀ (τ24 : Int32 × Int32) (μ : o_Mem), K (24, τ24) μ → o_Ev X (d + 3) mX12_lawsOf 24 [some (.ref (o_ad X a0)), some (.int x1), some (.int x2), some (.int x3), some (.int x4), some (.int τ24.1), some (.int τ24.2)] [] μ Q) (k68 : ∀ (τ24 : Int32 × Int32) (μ : o_Mem), K (68, τ24) μ → o_Ev X (d + 3) mX12_lawsOf 68 [some (.ref (o_ad X a0)), none, none, none, none, some (.int τ24.1), none] [] μ Q) : o_Ev X (d + 3) mX12_lawsOf 59 [some (.ref (o_ad X a0)), some (.int x1), some (.int x2), some (.int x3), some (.int x4), none, some (.int x6)] [.int y1, .int y0] μ0 Q := by
  unfold fX12_lawsOf_j59 at h
  refine s_ior dX12_lawsOf_59 ?_
  refine s_istore dX12_lawsOf_60 (Nat.le_of_ble_eq_true rfl) rfl ?_
  refine s_iinc (v := (x6 + 1)) dX12_lawsOf_62 rfl rfl (Nat.le_of_ble_eq_true rfl) rfl ?_
  refine s_goto (tgt := 24) dX12_lawsOf_65 rfl ?_
  refine s_mask [true, true, true, true, true, true, true] (L' := [some (.ref (o_ad X a0)), some (.int x1), some (.int x2), some (.int x3), some (.int x4), some (.int (y0 ||| y1)), some (.int (x6 + 1))]) rfl ?_
  exact kh ((y0 ||| y1), (x6 + 1)) _ (o_ret h)
set_option maxRecDepth 20000 in
theorem dnX12_lawsOf_s24 {X : o_Cx} (hX : o_ok X) {d : Nat} {a0 : Nat} {x1 : Int32} {x2 : Int32} {x3 : Int32} {x4 : Int32} {τ24 : Int32 × Int32} {μ0 : o_Mem} {K : (Nat × (Int32 × Int32)) → o_Mem → Prop} {Q : Option Value → o_Mem → Prop} (h0 : o_is X a0 (.inl 12)) (h : o_Post (fX12_lawsOf_s24 (o_rf X) a0 x1 x2 x3 x4 τ24 μ0) K) (kh : ∀ (τ24 : Int32 × Int32) (μ : o_Mem), K (24, τ24) μ → o_Ev X (d + 3) mX12_lawsOf 24 [some (.ref (o_ad X a0)), some (.int x1), some (.int x2), some (.int x3), some (.int x4), some (.int τ24.1), some (.int τ24.2)] [] μ Q) (k68 : ∀ (τ24 : Int32 × Int32) (μ : o_Mem), K (68, τ24) μ → o_Ev X (d + 3) mX12_lawsOf 68 [some (.ref (o_ad X a0)), none, none, none, none, some (.int τ24.1), none] [] μ Q) : o_Ev X (d + 3) mX12_lawsOf 24 [some (.ref (o_ad X a0)), some (.int x1), some (.int x2), some (.int x3), some (.int x4), some (.int τ24.1), some (.int τ24.2)] [] μ0 Q := by
  unfold fX12_lawsOf_s24 at h
  refine s_iload dX12_lawsOf_24 rfl ?_
  refine s_aload_n (i := 0) dX12_lawsOf_26 rfl rfl ?_
  refine s_getR hX h0 flX12_7 rfl dX12_lawsOf_27 (fun (g1 : o_is X (o_rf X a0 0) (.inr (0, 3756))) => ?_)
  refine s_iconst dX12_lawsOf_30 kI_3 ?_
  refine s_ialdK g1 ⟨by decide, by decide⟩ kN_3 dX12_lawsOf_31 ?_
  refine s_icmp_ge (tgt := 68) dX12_lawsOf_32 rfl (fun c1 => ?_) (fun c1 => ?_)
  · have h := o_if_t c1 h
    refine s_mask [true, false, false, false, false, true, false] (L' := [some (.ref (o_ad X a0)), none, none, none, none, some (.int τ24.1), none]) rfl ?_
    exact k68 (τ24.1, 0) _ (o_ret h)
  · have h := o_if_f c1 h
    refine s_iload dX12_lawsOf_35 rfl ?_
    refine s_aload_n (i := 0) dX12_lawsOf_37 rfl rfl ?_
    refine s_iload dX12_lawsOf_38 rfl ?_
    refine s_iload_n (i := 1) dX12_lawsOf_40 rfl rfl ?_
    refine s_iload_n (i := 2) dX12_lawsOf_41 rfl rfl ?_
    refine s_iload_n (i := 3) dX12_lawsOf_42 rfl rfl ?_
    refine s_iload dX12_lawsOf_43 rfl ?_
    refine s_callVz (C := mX12_doesFit) (As := [.int τ24.2, .int x1, .int x2, .int x3, .int x4]) (rest := [.int τ24.1]) (L0 := [some (.ref (o_ad X a0)), some (.int τ24.2), some (.int x1), some (.int x2), some (.int x3), some (.int x4), none]) hX h0 clX12_314 dX12_lawsOf_45 rfl rfl (Nat.le_of_ble_eq_true rfl) (Nat.le_of_ble_eq_true rfl) (dnX12_doesFit hX h0 (o_bdp h)) (fun r1 μ1 zr1 h => ?_)
    refine s_if_eq (tgt := 58) dX12_lawsOf_48 rfl (fun c1 => ?_) (fun c1 => ?_)
    · have h := o_if_t c1 h
      refine s_iconst dX12_lawsOf_58 kI_0 ?_
      refine s_mask [true, true, true, true, true, false, true] (L' := [some (.ref (o_ad X a0)), some (.int x1), some (.int x2), some (.int x3), some (.int x4), none, some (.int τ24.2)]) rfl ?_
      exact dnX12_lawsOf_j59 hX h0 h kh k68
    · have h := o_if_f c1 h
      refine s_iconst dX12_lawsOf_51 kI_1 ?_
      refine s_iload dX12_lawsOf_52 rfl ?_
      refine s_ishl dX12_lawsOf_54 ?_
      refine s_goto (tgt := 59) dX12_lawsOf_55 rfl ?_
      refine s_mask [true, true, true, true, true, false, true] (L' := [some (.ref (o_ad X a0)), some (.int x1), some (.int x2), some (.int x3), some (.int x4), none, some (.int τ24.2)]) rfl ?_
      exact dnX12_lawsOf_j59 hX h0 h kh k68
set_option maxRecDepth 20000 in
theorem dnX12_lawsOf {X : o_Cx} (hX : o_ok X) {d : Nat} {a0 : Nat} {x1 : Int32} {x2 : Int32} {x3 : Int32} {x4 : Int32} {μ0 : o_Mem} {q : Int32 → o_Mem → Prop} (h0 : o_is X a0 (.inl 12)) (h : o_Post (fX12_lawsOf (o_rf X) a0 x1 x2 x3 x4 μ0) q) : o_Ev X (d + 3) mX12_lawsOf 0 [some (.ref (o_ad X a0)), some (.int x1), some (.int x2), some (.int x3), some (.int x4), none, none] [] μ0 (o_QI q) := by
  unfold fX12_lawsOf at h
  refine s_aload_n (i := 0) dX12_lawsOf_0 rfl rfl ?_
  refine s_iload_n (i := 1) dX12_lawsOf_1 rfl rfl ?_
  refine s_iload_n (i := 2) dX12_lawsOf_2 rfl rfl ?_
  refine s_iload_n (i := 3) dX12_lawsOf_3 rfl rfl ?_
  refine s_iload dX12_lawsOf_4 rfl ?_
  refine s_callVz (C := mX12_isMail) (As := [.int x1, .int x2, .int x3, .int x4]) (rest := []) (L0 := [some (.ref (o_ad X a0)), some (.int x1), some (.int x2), some (.int x3), some (.int x4)]) hX h0 clX12_331 dX12_lawsOf_6 rfl rfl (Nat.le_of_ble_eq_true rfl) (Nat.le_of_ble_eq_true rfl) (dnX12_isMail hX h0 (o_bdp h)) (fun r1 μ1 zr1 h => ?_)
  refine s_if_ne (tgt := 18) dX12_lawsOf_9 rfl (fun c1 => ?_) (fun c1 => ?_)
  · have h := o_if_f c1 h
    refine s_iconst dX12_lawsOf_18 kI_0 ?_
    refine s_istore dX12_lawsOf_19 (Nat.le_of_ble_eq_true rfl) rfl ?_
    refine s_iconst dX12_lawsOf_21 kI_0 ?_
    refine s_istore dX12_lawsOf_22 (Nat.le_of_ble_eq_true rfl) rfl ?_
    refine s_mask [true, true, true, true, true, true, true] (L' := [some (.ref (o_ad X a0)), some (.int x1), some (.int x2), some (.int x3), some (.int x4), some (.int 0), some (.int 0)]) rfl ?_
    refine o_lp_ev (fun τ24 => [some (.ref (o_ad X a0)), some (.int x1), some (.int x2), some (.int x3), some (.int x4), some (.int τ24.1), some (.int τ24.2)]) (fun τ24 μ _K h kv ke24 => dnX12_lawsOf_s24 hX h0 h kv (fun τ24 μ2 h => ?_)) o_fuel (0, 0) μ1 (o_bdp h)
    · have h := o_if_t rfl (ke24 (68, τ24) μ2 (o_ne rfl) h)
      refine s_aload_n (i := 0) dX12_lawsOf_68 rfl rfl ?_
      refine s_iload dX12_lawsOf_69 rfl ?_
      refine s_callVi (C := mX12_gives) (As := [.int τ24.1]) (rest := []) (L0 := [some (.ref (o_ad X a0)), some (.int τ24.1)]) hX h0 clX12_91 dX12_lawsOf_71 rfl rfl (Nat.le_of_ble_eq_true rfl) (Nat.le_of_ble_eq_true rfl) (dnX12_gives hX h0 (o_bdp h)) (fun r2 μ3 h => ?_)
      exact s_ireturn rfl dX12_lawsOf_74 ⟨_, rfl, o_ret h⟩
  · have h := o_if_t c1 h
    refine s_aload_n (i := 0) dX12_lawsOf_12 rfl rfl ?_
    refine s_iconst dX12_lawsOf_13 kI_1 ?_
    refine s_callVi (C := mX12_refuse) (As := [.int 1]) (rest := []) (L0 := [some (.ref (o_ad X a0)), some (.int 1)]) hX h0 clX12_87 dX12_lawsOf_14 rfl rfl (Nat.le_of_ble_eq_true rfl) (Nat.le_of_ble_eq_true rfl) (dnX12_refuse hX h0 (o_bdp h)) (fun r3 μ4 h => ?_)
    exact s_ireturn rfl dX12_lawsOf_17 ⟨_, rfl, o_ret h⟩
theorem dX12_sure_0 : decode cX12_sure 0 = .ok (.aload_n 0, 1) := by decide +kernel
theorem dX12_sure_1 : decode cX12_sure 1 = .ok (.iload_n 1, 1) := by decide +kernel
theorem dX12_sure_2 : decode cX12_sure 2 = .ok (.iload_n 2, 1) := by decide +kernel
theorem dX12_sure_3 : decode cX12_sure 3 = .ok (.iload_n 3, 1) := by decide +kernel
theorem dX12_sure_4 : decode cX12_sure 4 = .ok (.iload 4, 2) := by decide +kernel
theorem dX12_sure_6 : decode cX12_sure 6 = .ok (.invokevirtual 331, 3) := by decide +kernel
theorem dX12_sure_9 : decode cX12_sure 9 = .ok (.ifCond .eq 13, 3) := by decide +kernel
theorem dX12_sure_12 : decode cX12_sure 12 = .ok (.aload_n 0, 1) := by decide +kernel
theorem dX12_sure_13 : decode cX12_sure 13 = .ok (.iload 5, 2) := by decide +kernel
theorem dX12_sure_15 : decode cX12_sure 15 = .ok (.i2l, 1) := by decide +kernel
theorem dX12_sure_16 : decode cX12_sure 16 = .ok (.invokevirtual 284, 3) := by decide +kernel
theorem dX12_sure_19 : decode cX12_sure 19 = .ok (.ifCond .ne 9, 3) := by decide +kernel
theorem dX12_sure_22 : decode cX12_sure 22 = .ok (.aload_n 0, 1) := by decide +kernel
theorem dX12_sure_23 : decode cX12_sure 23 = .ok (.iconst 1, 1) := by decide +kernel
theorem dX12_sure_24 : decode cX12_sure 24 = .ok (.invokevirtual 94, 3) := by decide +kernel
theorem dX12_sure_27 : decode cX12_sure 27 = .ok (.ireturn, 1) := by decide +kernel
theorem dX12_sure_28 : decode cX12_sure 28 = .ok (.aload_n 0, 1) := by decide +kernel
theorem dX12_sure_29 : decode cX12_sure 29 = .ok (.iload_n 1, 1) := by decide +kernel
theorem dX12_sure_30 : decode cX12_sure 30 = .ok (.iload_n 2, 1) := by decide +kernel
theorem dX12_sure_31 : decode cX12_sure 31 = .ok (.iload_n 3, 1) := by decide +kernel
theorem dX12_sure_32 : decode cX12_sure 32 = .ok (.iload 4, 2) := by decide +kernel
theorem dX12_sure_34 : decode cX12_sure 34 = .ok (.invokevirtual 325, 3) := by decide +kernel
theorem dX12_sure_37 : decode cX12_sure 37 = .ok (.istore 6, 2) := by decide +kernel
theorem dX12_sure_39 : decode cX12_sure 39 = .ok (.aload_n 0, 1) := by decide +kernel
theorem dX12_sure_40 : decode cX12_sure 40 = .ok (.iload 6, 2) := by decide +kernel
theorem dX12_sure_42 : decode cX12_sure 42 = .ok (.iload 5, 2) := by decide +kernel
theorem dX12_sure_44 : decode cX12_sure 44 = .ok (.if_icmp .ne 16, 3) := by decide +kernel
theorem dX12_sure_47 : decode cX12_sure 47 = .ok (.bipush 16, 2) := by decide +kernel
theorem dX12_sure_49 : decode cX12_sure 49 = .ok (.aload_n 0, 1) := by decide +kernel
theorem dX12_sure_50 : decode cX12_sure 50 = .ok (.getfield 7, 3) := by decide +kernel
theorem dX12_sure_53 : decode cX12_sure 53 = .ok (.bipush 6, 2) := by decide +kernel
theorem dX12_sure_55 : decode cX12_sure 55 = .ok (.iaload, 1) := by decide +kernel
theorem dX12_sure_56 : decode cX12_sure 56 = .ok (.isub, 1) := by decide +kernel
theorem dX12_sure_57 : decode cX12_sure 57 = .ok (.goto 4, 3) := by decide +kernel
theorem dX12_sure_60 : decode cX12_sure 60 = .ok (.iconst 0, 1) := by decide +kernel
theorem dX12_sure_61 : decode cX12_sure 61 = .ok (.aload_n 0, 1) := by decide +kernel
theorem dX12_sure_62 : decode cX12_sure 62 = .ok (.iload 6, 2) := by decide +kernel
theorem dX12_sure_64 : decode cX12_sure 64 = .ok (.invokevirtual 328, 3) := by decide +kernel
theorem dX12_sure_67 : decode cX12_sure 67 = .ok (.iload 5, 2) := by decide +kernel
theorem dX12_sure_69 : decode cX12_sure 69 = .ok (.if_icmp .ne 13, 3) := by decide +kernel
theorem dX12_sure_72 : decode cX12_sure 72 = .ok (.aload_n 0, 1) := by decide +kernel
theorem dX12_sure_73 : decode cX12_sure 73 = .ok (.getfield 7, 3) := by decide +kernel
theorem dX12_sure_76 : decode cX12_sure 76 = .ok (.bipush 6, 2) := by decide +kernel
theorem dX12_sure_78 : decode cX12_sure 78 = .ok (.iaload, 1) := by decide +kernel
theorem dX12_sure_79 : decode cX12_sure 79 = .ok (.goto 4, 3) := by decide +kernel
theorem dX12_sure_82 : decode cX12_sure 82 = .ok (.iconst 0, 1) := by decide +kernel
theorem dX12_sure_83 : decode cX12_sure 83 = .ok (.iadd, 1) := by decide +kernel
theorem dX12_sure_84 : decode cX12_sure 84 = .ok (.i2l, 1) := by decide +kernel
theorem dX12_sure_85 : decode cX12_sure 85 = .ok (.ldc2_w 357, 3) := by decide +kernel
theorem dX12_sure_88 : decode cX12_sure 88 = .ok (.invokevirtual 359, 3) := by decide +kernel
theorem dX12_sure_91 : decode cX12_sure 91 = .ok (.ireturn, 1) := by decide +kernel
noncomputable def fX12_sure_j22 (rf : Nat → Nat → Nat) (a0 : Nat) (μ0 : o_Mem) : Option (Int32 × o_Mem) :=
  o_bd (fX12_is rf a0 1 μ0) fun r1 μ1 =>
  some (r1, μ1)
noncomputable def fX12_sure_j83 (rf : Nat → Nat → Nat) (b0 : Nat) (y1 : Int32) (y2 : Int32) (μ0 : o_Mem) : Option (Int32 × o_Mem) :=
  o_bd (fX12_tellsBy rf b0 ((y1 + y2).toInt64) (16 : Int64) μ0) fun r1 μ1 =>
  some (r1, μ1)
noncomputable def fX12_sure_j61 (rf : Nat → Nat → Nat) (a0 : Nat) (x5 : Int32) (x6 : Int32) (b0 : Nat) (y1 : Int32) (μ0 : o_Mem) : Option (Int32 × o_Mem) :=
  o_bd (fX12_drunkFor rf a0 x6 μ0) fun r1 μ1 =>
  if r1 = x5 then (
    fX12_sure_j83 rf b0 y1 (μ1.1 (rf a0 0) 6) μ1)
  else (
    fX12_sure_j83 rf b0 y1 0 μ1)
noncomputable def fX12_sure (rf : Nat → Nat → Nat) (a0 : Nat) (x1 : Int32) (x2 : Int32) (x3 : Int32) (x4 : Int32) (x5 : Int32) (μ0 : o_Mem) : Option (Int32 × o_Mem) :=
  o_bd (fX12_isMail rf a0 x1 x2 x3 x4 μ0) fun r1 μ1 =>
  if r1 = 0 then (
    fX12_sure_j22 rf a0 μ1)
  else (
    o_bd (fX12_isStrike rf a0 x5.toInt64 μ1) fun r2 μ2 =>
    if r2 = 0 then (
      fX12_sure_j22 rf a0 μ2)
    else (
      o_bd (fX12_sober rf a0 x1 x2 x3 x4 μ2) fun r3 μ3 =>
      if r3 = x5 then (
        fX12_sure_j61 rf a0 x5 r3 a0 (16 - (μ3.1 (rf a0 0) 6)) μ3)
      else (
        fX12_sure_j61 rf a0 x5 r3 a0 0 μ3)))
set_option maxRecDepth 20000 in
theorem dnX12_sure_j22 {X : o_Cx} (hX : o_ok X) {d : Nat} {a0 : Nat} {μ0 : o_Mem} {q : Int32 → o_Mem → Prop} (h0 : o_is X a0 (.inl 12)) (h : o_Post (fX12_sure_j22 (o_rf X) a0 μ0) q) : o_Ev X (d + 4) mX12_sure 22 [some (.ref (o_ad X a0)), none, none, none, none, none, none] [] μ0 (o_QZ q) := by
  unfold fX12_sure_j22 at h
  refine s_aload_n (i := 0) dX12_sure_22 rfl rfl ?_
  refine s_iconst dX12_sure_23 kI_1 ?_
  refine s_callVz (C := mX12_is) (As := [.int 1]) (rest := []) (L0 := [some (.ref (o_ad X a0)), some (.int 1)]) hX h0 clX12_94 dX12_sure_24 rfl rfl (Nat.le_of_ble_eq_true rfl) (Nat.le_of_ble_eq_true rfl) (dnX12_is hX h0 (o_bdp h)) (fun r1 μ1 zr1 h => ?_)
  exact s_zreturn rfl zr1 dX12_sure_27 ⟨_, rfl, zr1, o_ret h⟩
set_option maxRecDepth 20000 in
theorem dnX12_sure_j83 {X : o_Cx} (hX : o_ok X) {d : Nat} {b0 : Nat} {y1 : Int32} {y2 : Int32} {μ0 : o_Mem} {q : Int32 → o_Mem → Prop} (hb0 : o_is X b0 (.inl 12)) (h : o_Post (fX12_sure_j83 (o_rf X) b0 y1 y2 μ0) q) : o_Ev X (d + 4) mX12_sure 83 [none, none, none, none, none, none, none] [.int y2, .int y1, .ref (o_ad X b0)] μ0 (o_QZ q) := by
  unfold fX12_sure_j83 at h
  refine s_iadd dX12_sure_83 ?_
  refine s_i2l dX12_sure_84 ?_
  refine s_ldc2 (v := 16) w_8_127 dX12_sure_85 ?_
  refine s_callVz (C := mX12_tellsBy) (As := [.long ((y1 + y2).toInt64), .long (16 : Int64)]) (rest := []) (L0 := [some (.ref (o_ad X b0)), some (.long ((y1 + y2).toInt64)), none, some (.long (16 : Int64)), none, none, none, none, none, none, none]) hX hb0 clX12_359 dX12_sure_88 rfl rfl (Nat.le_of_ble_eq_true rfl) (Nat.le_of_ble_eq_true rfl) (dnX12_tellsBy hX hb0 (o_bdp h)) (fun r1 μ1 zr1 h => ?_)
  exact s_zreturn rfl zr1 dX12_sure_91 ⟨_, rfl, zr1, o_ret h⟩
set_option maxRecDepth 20000 in
theorem dnX12_sure_j61 {X : o_Cx} (hX : o_ok X) {d : Nat} {a0 : Nat} {x5 : Int32} {x6 : Int32} {b0 : Nat} {y1 : Int32} {μ0 : o_Mem} {q : Int32 → o_Mem → Prop} (h0 : o_is X a0 (.inl 12)) (hb0 : o_is X b0 (.inl 12)) (h : o_Post (fX12_sure_j61 (o_rf X) a0 x5 x6 b0 y1 μ0) q) : o_Ev X (d + 4) mX12_sure 61 [some (.ref (o_ad X a0)), none, none, none, none, some (.int x5), some (.int x6)] [.int y1, .ref (o_ad X b0)] μ0 (o_QZ q) := by
  unfold fX12_sure_j61 at h
  refine s_aload_n (i := 0) dX12_sure_61 rfl rfl ?_
  refine s_iload dX12_sure_62 rfl ?_
  refine s_callVi (C := mX12_drunkFor) (As := [.int x6]) (rest := [.int y1, .ref (o_ad X b0)]) (L0 := [some (.ref (o_ad X a0)), some (.int x6)]) hX h0 clX12_328 dX12_sure_64 rfl rfl (Nat.le_of_ble_eq_true rfl) (Nat.le_of_ble_eq_true rfl) (dnX12_drunkFor hX h0 (o_bdp h)) (fun r1 μ1 h => ?_)
  refine s_iload dX12_sure_67 rfl ?_
  refine s_icmp_ne (tgt := 82) dX12_sure_69 rfl (fun c1 => ?_) (fun c1 => ?_)
  · have h := o_if_f c1 h
    refine s_iconst dX12_sure_82 kI_0 ?_
    refine s_mask [false, false, false, false, false, false, false] (L' := [none, none, none, none, none, none, none]) rfl ?_
    exact dnX12_sure_j83 hX hb0 h
  · have h := o_if_t c1 h
    refine s_aload_n (i := 0) dX12_sure_72 rfl rfl ?_
    refine s_getR hX h0 flX12_7 rfl dX12_sure_73 (fun (g1 : o_is X (o_rf X a0 0) (.inr (0, 3756))) => ?_)
    refine s_bipush dX12_sure_76 kB_6 ?_
    refine s_ialdK g1 ⟨by decide, by decide⟩ kN_6 dX12_sure_78 ?_
    refine s_goto (tgt := 83) dX12_sure_79 rfl ?_
    refine s_mask [false, false, false, false, false, false, false] (L' := [none, none, none, none, none, none, none]) rfl ?_
    exact dnX12_sure_j83 hX hb0 h
set_option maxRecDepth 20000 in
theorem dnX12_sure {X : o_Cx} (hX : o_ok X) {d : Nat} {a0 : Nat} {x1 : Int32} {x2 : Int32} {x3 : Int32} {x4 : Int32} {x5 : Int32} {μ0 : o_Mem} {q : Int32 → o_Mem → Prop} (h0 : o_is X a0 (.inl 12)) (h : o_Post (fX12_sure (o_rf X) a0 x1 x2 x3 x4 x5 μ0) q) : o_Ev X (d + 4) mX12_sure 0 [some (.ref (o_ad X a0)), some (.int x1), some (.int x2), some (.int x3), some (.int x4), some (.int x5), none] [] μ0 (o_QZ q) := by
  unfold fX12_sure at h
  refine s_aload_n (i := 0) dX12_sure_0 rfl rfl ?_
  refine s_iload_n (i := 1) dX12_sure_1 rfl rfl ?_
  refine s_iload_n (i := 2) dX12_sure_2 rfl rfl ?_
  refine s_iload_n (i := 3) dX12_sure_3 rfl rfl ?_
  refine s_iload dX12_sure_4 rfl ?_
  refine s_callVz (C := mX12_isMail) (As := [.int x1, .int x2, .int x3, .int x4]) (rest := []) (L0 := [some (.ref (o_ad X a0)), some (.int x1), some (.int x2), some (.int x3), some (.int x4)]) hX h0 clX12_331 dX12_sure_6 rfl rfl (Nat.le_of_ble_eq_true rfl) (Nat.le_of_ble_eq_true rfl) (dnX12_isMail hX h0 (o_bdp h)) (fun r1 μ1 zr1 h => ?_)
  refine s_if_eq (tgt := 22) dX12_sure_9 rfl (fun c1 => ?_) (fun c1 => ?_)
  · have h := o_if_t c1 h
    refine s_mask [true, false, false, false, false, false, false] (L' := [some (.ref (o_ad X a0)), none, none, none, none, none, none]) rfl ?_
    exact dnX12_sure_j22 hX h0 h
  · have h := o_if_f c1 h
    refine s_aload_n (i := 0) dX12_sure_12 rfl rfl ?_
    refine s_iload dX12_sure_13 rfl ?_
    refine s_i2l dX12_sure_15 ?_
    refine s_callVz (C := mX12_isStrike) (As := [.long x5.toInt64]) (rest := []) (L0 := [some (.ref (o_ad X a0)), some (.long x5.toInt64), none]) hX h0 clX12_284 dX12_sure_16 rfl rfl (Nat.le_of_ble_eq_true rfl) (Nat.le_of_ble_eq_true rfl) (dnX12_isStrike hX h0 (o_bdp h)) (fun r2 μ2 zr2 h => ?_)
    refine s_if_ne (tgt := 28) dX12_sure_19 rfl (fun c1 => ?_) (fun c1 => ?_)
    · have h := o_if_f c1 h
      refine s_aload_n (i := 0) dX12_sure_28 rfl rfl ?_
      refine s_iload_n (i := 1) dX12_sure_29 rfl rfl ?_
      refine s_iload_n (i := 2) dX12_sure_30 rfl rfl ?_
      refine s_iload_n (i := 3) dX12_sure_31 rfl rfl ?_
      refine s_iload dX12_sure_32 rfl ?_
      refine s_callVi (C := mX12_sober) (As := [.int x1, .int x2, .int x3, .int x4]) (rest := []) (L0 := [some (.ref (o_ad X a0)), some (.int x1), some (.int x2), some (.int x3), some (.int x4)]) hX h0 clX12_325 dX12_sure_34 rfl rfl (Nat.le_of_ble_eq_true rfl) (Nat.le_of_ble_eq_true rfl) (dnX12_sober hX h0 (o_bdp h)) (fun r3 μ3 h => ?_)
      refine s_istore dX12_sure_37 (Nat.le_of_ble_eq_true rfl) rfl ?_
      refine s_aload_n (i := 0) dX12_sure_39 rfl rfl ?_
      refine s_iload dX12_sure_40 rfl ?_
      refine s_iload dX12_sure_42 rfl ?_
      refine s_icmp_ne (tgt := 60) dX12_sure_44 rfl (fun c1 => ?_) (fun c1 => ?_)
      · have h := o_if_f c1 h
        refine s_iconst dX12_sure_60 kI_0 ?_
        refine s_mask [true, false, false, false, false, true, true] (L' := [some (.ref (o_ad X a0)), none, none, none, none, some (.int x5), some (.int r3)]) rfl ?_
        exact dnX12_sure_j61 hX h0 h0 h
      · have h := o_if_t c1 h
        refine s_bipush dX12_sure_47 kB_16 ?_
        refine s_aload_n (i := 0) dX12_sure_49 rfl rfl ?_
        refine s_getR hX h0 flX12_7 rfl dX12_sure_50 (fun (g1 : o_is X (o_rf X a0 0) (.inr (0, 3756))) => ?_)
        refine s_bipush dX12_sure_53 kB_6 ?_
        refine s_ialdK g1 ⟨by decide, by decide⟩ kN_6 dX12_sure_55 ?_
        refine s_isub dX12_sure_56 ?_
        refine s_goto (tgt := 61) dX12_sure_57 rfl ?_
        refine s_mask [true, false, false, false, false, true, true] (L' := [some (.ref (o_ad X a0)), none, none, none, none, some (.int x5), some (.int r3)]) rfl ?_
        exact dnX12_sure_j61 hX h0 h0 h
    · have h := o_if_t c1 h
      refine s_mask [true, false, false, false, false, false, false] (L' := [some (.ref (o_ad X a0)), none, none, none, none, none, none]) rfl ?_
      exact dnX12_sure_j22 hX h0 h
theorem dX12_wrap_0 : decode cX12_wrap 0 = .ok (.aload_n 0, 1) := by decide +kernel
theorem dX12_wrap_1 : decode cX12_wrap 1 = .ok (.iload_n 1, 1) := by decide +kernel
theorem dX12_wrap_2 : decode cX12_wrap 2 = .ok (.iload_n 2, 1) := by decide +kernel
theorem dX12_wrap_3 : decode cX12_wrap 3 = .ok (.iload_n 3, 1) := by decide +kernel
theorem dX12_wrap_4 : decode cX12_wrap 4 = .ok (.iload 4, 2) := by decide +kernel
theorem dX12_wrap_6 : decode cX12_wrap 6 = .ok (.invokevirtual 331, 3) := by decide +kernel
theorem dX12_wrap_9 : decode cX12_wrap 9 = .ok (.ifCond .eq 13, 3) := by decide +kernel
theorem dX12_wrap_12 : decode cX12_wrap 12 = .ok (.aload_n 0, 1) := by decide +kernel
theorem dX12_wrap_13 : decode cX12_wrap 13 = .ok (.iload 5, 2) := by decide +kernel
theorem dX12_wrap_15 : decode cX12_wrap 15 = .ok (.i2l, 1) := by decide +kernel
theorem dX12_wrap_16 : decode cX12_wrap 16 = .ok (.invokevirtual 284, 3) := by decide +kernel
theorem dX12_wrap_19 : decode cX12_wrap 19 = .ok (.ifCond .ne 9, 3) := by decide +kernel
theorem dX12_wrap_22 : decode cX12_wrap 22 = .ok (.aload_n 0, 1) := by decide +kernel
theorem dX12_wrap_23 : decode cX12_wrap 23 = .ok (.iconst 1, 1) := by decide +kernel
theorem dX12_wrap_24 : decode cX12_wrap 24 = .ok (.invokevirtual 87, 3) := by decide +kernel
theorem dX12_wrap_27 : decode cX12_wrap 27 = .ok (.ireturn, 1) := by decide +kernel
theorem dX12_wrap_28 : decode cX12_wrap 28 = .ok (.iload_n 3, 1) := by decide +kernel
theorem dX12_wrap_29 : decode cX12_wrap 29 = .ok (.istore 6, 2) := by decide +kernel
theorem dX12_wrap_31 : decode cX12_wrap 31 = .ok (.iload 6, 2) := by decide +kernel
theorem dX12_wrap_33 : decode cX12_wrap 33 = .ok (.bipush 99, 2) := by decide +kernel
theorem dX12_wrap_35 : decode cX12_wrap 35 = .ok (.if_icmp .gt 33, 3) := by decide +kernel
theorem dX12_wrap_38 : decode cX12_wrap 38 = .ok (.aload_n 0, 1) := by decide +kernel
theorem dX12_wrap_39 : decode cX12_wrap 39 = .ok (.iload_n 1, 1) := by decide +kernel
theorem dX12_wrap_40 : decode cX12_wrap 40 = .ok (.iload_n 2, 1) := by decide +kernel
theorem dX12_wrap_41 : decode cX12_wrap 41 = .ok (.iload 6, 2) := by decide +kernel
theorem dX12_wrap_43 : decode cX12_wrap 43 = .ok (.iload 4, 2) := by decide +kernel
theorem dX12_wrap_45 : decode cX12_wrap 45 = .ok (.invokevirtual 325, 3) := by decide +kernel
theorem dX12_wrap_48 : decode cX12_wrap 48 = .ok (.iload 5, 2) := by decide +kernel
theorem dX12_wrap_50 : decode cX12_wrap 50 = .ok (.if_icmp .ne 12, 3) := by decide +kernel
theorem dX12_wrap_53 : decode cX12_wrap 53 = .ok (.aload_n 0, 1) := by decide +kernel
theorem dX12_wrap_54 : decode cX12_wrap 54 = .ok (.iload 6, 2) := by decide +kernel
theorem dX12_wrap_56 : decode cX12_wrap 56 = .ok (.iload_n 3, 1) := by decide +kernel
theorem dX12_wrap_57 : decode cX12_wrap 57 = .ok (.isub, 1) := by decide +kernel
theorem dX12_wrap_58 : decode cX12_wrap 58 = .ok (.invokevirtual 91, 3) := by decide +kernel
theorem dX12_wrap_61 : decode cX12_wrap 61 = .ok (.ireturn, 1) := by decide +kernel
theorem dX12_wrap_62 : decode cX12_wrap 62 = .ok (.iinc 6 1, 3) := by decide +kernel
theorem dX12_wrap_65 : decode cX12_wrap 65 = .ok (.goto (-34), 3) := by decide +kernel
theorem dX12_wrap_68 : decode cX12_wrap 68 = .ok (.aload_n 0, 1) := by decide +kernel
theorem dX12_wrap_69 : decode cX12_wrap 69 = .ok (.bipush 6, 2) := by decide +kernel
theorem dX12_wrap_71 : decode cX12_wrap 71 = .ok (.invokevirtual 87, 3) := by decide +kernel
theorem dX12_wrap_74 : decode cX12_wrap 74 = .ok (.ireturn, 1) := by decide +kernel
noncomputable def fX12_wrap_j22 (rf : Nat → Nat → Nat) (a0 : Nat) (μ0 : o_Mem) : Option (Int32 × o_Mem) :=
  o_bd (fX12_refuse rf a0 1 μ0) fun r1 μ1 =>
  some (r1, μ1)
noncomputable def fX12_wrap_s31 (rf : Nat → Nat → Nat) (a0 : Nat) (x1 : Int32) (x2 : Int32) (x3 : Int32) (x4 : Int32) (x5 : Int32) (τ31 : Int32) (μ0 : o_Mem) : Option ((Nat × (Int32)) × o_Mem) :=
  if 99 < τ31 then (
    some ((68, 0), μ0))
  else (
    o_bd (fX12_sober rf a0 x1 x2 τ31 x4 μ0) fun r1 μ1 =>
    if r1 = x5 then (
      some ((53, τ31), μ1))
    else (
      some ((31, (τ31 + 1)), μ1)))
noncomputable def fX12_wrap (rf : Nat → Nat → Nat) (a0 : Nat) (x1 : Int32) (x2 : Int32) (x3 : Int32) (x4 : Int32) (x5 : Int32) (μ0 : o_Mem) : Option (Int32 × o_Mem) :=
  o_bd (fX12_isMail rf a0 x1 x2 x3 x4 μ0) fun r1 μ1 =>
  if r1 = 0 then (
    fX12_wrap_j22 rf a0 μ1)
  else (
    o_bd (fX12_isStrike rf a0 x5.toInt64 μ1) fun r2 μ2 =>
    if r2 = 0 then (
      fX12_wrap_j22 rf a0 μ2)
    else (
      o_bd (o_lp 31 (fX12_wrap_s31 rf a0 x1 x2 x3 x4 x5) o_fuel (x3 : Int32) μ2) fun ex3 μ3 =>
      if ex3.1 = 53 then (
        o_bd (fX12_gives rf a0 (ex3.2 - x3) μ3) fun r3 μ4 =>
        some (r3, μ4))
      else
      if ex3.1 = 68 then (
        o_bd (fX12_refuse rf a0 6 μ3) fun r4 μ5 =>
        some (r4, μ5))
      else
        none))
set_option maxRecDepth 20000 in
theorem dnX12_wrap_j22 {X : o_Cx} (hX : o_ok X) {d : Nat} {a0 : Nat} {μ0 : o_Mem} {q : Int32 → o_Mem → Prop} (h0 : o_is X a0 (.inl 12)) (h : o_Post (fX12_wrap_j22 (o_rf X) a0 μ0) q) : o_Ev X (d + 4) mX12_wrap 22 [some (.ref (o_ad X a0)), none, none, none, none, none, none] [] μ0 (o_QI q) := by
  unfold fX12_wrap_j22 at h
  refine s_aload_n (i := 0) dX12_wrap_22 rfl rfl ?_
  refine s_iconst dX12_wrap_23 kI_1 ?_
  refine s_callVi (C := mX12_refuse) (As := [.int 1]) (rest := []) (L0 := [some (.ref (o_ad X a0)), some (.int 1)]) hX h0 clX12_87 dX12_wrap_24 rfl rfl (Nat.le_of_ble_eq_true rfl) (Nat.le_of_ble_eq_true rfl) (dnX12_refuse hX h0 (o_bdp h)) (fun r1 μ1 h => ?_)
  exact s_ireturn rfl dX12_wrap_27 ⟨_, rfl, o_ret h⟩
set_option maxRecDepth 20000 in
theorem dnX12_wrap_s31 {X : o_Cx} (hX : o_ok X) {d : Nat} {a0 : Nat} {x1 : Int32} {x2 : Int32} {x3 : Int32} {x4 : Int32} {x5 : Int32} {τ31 : Int32} {μ0 : o_Mem} {K : (Nat × (Int32)) → o_Mem → Prop} {Q : Option Value → o_Mem → Prop} (h0 : o_is X a0 (.inl 12)) (h : o_Post (fX12_wrap_s31 (o_rf X) a0 x1 x2 x3 x4 x5 τ31 μ0) K) (kh : ∀ (τ31 : Int32) (μ : o_Mem), K (31, τ31) μ → o_Ev X (d + 4) mX12_wrap 31 [some (.ref (o_ad X a0)), some (.int x1), some (.int x2), some (.int x3), some (.int x4), some (.int x5), some (.int τ31)] [] μ Q) (k53 : ∀ (τ31 : Int32) (μ : o_Mem), K (53, τ31) μ → o_Ev X (d + 4) mX12_wrap 53 [some (.ref (o_ad X a0)), none, none, some (.int x3), none, none, some (.int τ31)] [] μ Q) (k68 : ∀ (τ31 : Int32) (μ : o_Mem), K (68, τ31) μ → o_Ev X (d + 4) mX12_wrap 68 [some (.ref (o_ad X a0)), none, none, none, none, none, none] [] μ Q) : o_Ev X (d + 4) mX12_wrap 31 [some (.ref (o_ad X a0)), some (.int x1), some (.int x2), some (.int x3), some (.int x4), some (.int x5), some (.int τ31)] [] μ0 Q := by
  unfold fX12_wrap_s31 at h
  refine s_iload dX12_wrap_31 rfl ?_
  refine s_bipush dX12_wrap_33 kB_99 ?_
  refine s_icmp_gt (tgt := 68) dX12_wrap_35 rfl (fun c1 => ?_) (fun c1 => ?_)
  · have h := o_if_t c1 h
    refine s_mask [true, false, false, false, false, false, false] (L' := [some (.ref (o_ad X a0)), none, none, none, none, none, none]) rfl ?_
    exact k68 0 _ (o_ret h)
  · have h := o_if_f c1 h
    refine s_aload_n (i := 0) dX12_wrap_38 rfl rfl ?_
    refine s_iload_n (i := 1) dX12_wrap_39 rfl rfl ?_
    refine s_iload_n (i := 2) dX12_wrap_40 rfl rfl ?_
    refine s_iload dX12_wrap_41 rfl ?_
    refine s_iload dX12_wrap_43 rfl ?_
    refine s_callVi (C := mX12_sober) (As := [.int x1, .int x2, .int τ31, .int x4]) (rest := []) (L0 := [some (.ref (o_ad X a0)), some (.int x1), some (.int x2), some (.int τ31), some (.int x4)]) hX h0 clX12_325 dX12_wrap_45 rfl rfl (Nat.le_of_ble_eq_true rfl) (Nat.le_of_ble_eq_true rfl) (dnX12_sober hX h0 (o_bdp h)) (fun r1 μ1 h => ?_)
    refine s_iload dX12_wrap_48 rfl ?_
    refine s_icmp_ne (tgt := 62) dX12_wrap_50 rfl (fun c1 => ?_) (fun c1 => ?_)
    · have h := o_if_f c1 h
      refine s_iinc (v := (τ31 + 1)) dX12_wrap_62 rfl rfl (Nat.le_of_ble_eq_true rfl) rfl ?_
      refine s_goto (tgt := 31) dX12_wrap_65 rfl ?_
      refine s_mask [true, true, true, true, true, true, true] (L' := [some (.ref (o_ad X a0)), some (.int x1), some (.int x2), some (.int x3), some (.int x4), some (.int x5), some (.int (τ31 + 1))]) rfl ?_
      exact kh (τ31 + 1) _ (o_ret h)
    · have h := o_if_t c1 h
      refine s_mask [true, false, false, true, false, false, true] (L' := [some (.ref (o_ad X a0)), none, none, some (.int x3), none, none, some (.int τ31)]) rfl ?_
      exact k53 τ31 _ (o_ret h)
set_option maxRecDepth 20000 in
theorem dnX12_wrap {X : o_Cx} (hX : o_ok X) {d : Nat} {a0 : Nat} {x1 : Int32} {x2 : Int32} {x3 : Int32} {x4 : Int32} {x5 : Int32} {μ0 : o_Mem} {q : Int32 → o_Mem → Prop} (h0 : o_is X a0 (.inl 12)) (h : o_Post (fX12_wrap (o_rf X) a0 x1 x2 x3 x4 x5 μ0) q) : o_Ev X (d + 4) mX12_wrap 0 [some (.ref (o_ad X a0)), some (.int x1), some (.int x2), some (.int x3), some (.int x4), some (.int x5), none] [] μ0 (o_QI q) := by
  unfold fX12_wrap at h
  refine s_aload_n (i := 0) dX12_wrap_0 rfl rfl ?_
  refine s_iload_n (i := 1) dX12_wrap_1 rfl rfl ?_
  refine s_iload_n (i := 2) dX12_wrap_2 rfl rfl ?_
  refine s_iload_n (i := 3) dX12_wrap_3 rfl rfl ?_
  refine s_iload dX12_wrap_4 rfl ?_
  refine s_callVz (C := mX12_isMail) (As := [.int x1, .int x2, .int x3, .int x4]) (rest := []) (L0 := [some (.ref (o_ad X a0)), some (.int x1), some (.int x2), some (.int x3), some (.int x4)]) hX h0 clX12_331 dX12_wrap_6 rfl rfl (Nat.le_of_ble_eq_true rfl) (Nat.le_of_ble_eq_true rfl) (dnX12_isMail hX h0 (o_bdp h)) (fun r1 μ1 zr1 h => ?_)
  refine s_if_eq (tgt := 22) dX12_wrap_9 rfl (fun c1 => ?_) (fun c1 => ?_)
  · have h := o_if_t c1 h
    refine s_mask [true, false, false, false, false, false, false] (L' := [some (.ref (o_ad X a0)), none, none, none, none, none, none]) rfl ?_
    exact dnX12_wrap_j22 hX h0 h
  · have h := o_if_f c1 h
    refine s_aload_n (i := 0) dX12_wrap_12 rfl rfl ?_
    refine s_iload dX12_wrap_13 rfl ?_
    refine s_i2l dX12_wrap_15 ?_
    refine s_callVz (C := mX12_isStrike) (As := [.long x5.toInt64]) (rest := []) (L0 := [some (.ref (o_ad X a0)), some (.long x5.toInt64), none]) hX h0 clX12_284 dX12_wrap_16 rfl rfl (Nat.le_of_ble_eq_true rfl) (Nat.le_of_ble_eq_true rfl) (dnX12_isStrike hX h0 (o_bdp h)) (fun r2 μ2 zr2 h => ?_)
    refine s_if_ne (tgt := 28) dX12_wrap_19 rfl (fun c1 => ?_) (fun c1 => ?_)
    · have h := o_if_f c1 h
      refine s_iload_n (i := 3) dX12_wrap_28 rfl rfl ?_
      refine s_istore dX12_wrap_29 (Nat.le_of_ble_eq_true rfl) rfl ?_
      refine s_mask [true, true, true, true, true, true, true] (L' := [some (.ref (o_ad X a0)), some (.int x1), some (.int x2), some (.int x3), some (.int x4), some (.int x5), some (.int x3)]) rfl ?_
      refine o_lp_ev (fun τ31 => [some (.ref (o_ad X a0)), some (.int x1), some (.int x2), some (.int x3), some (.int x4), some (.int x5), some (.int τ31)]) (fun τ31 μ _K h kv ke31 => dnX12_wrap_s31 hX h0 h kv (fun τ31 μ3 h => ?_) (fun τ31 μ3 h => ?_)) o_fuel x3 μ2 (o_bdp h)
      · have h := o_if_t rfl (ke31 (53, τ31) μ3 (o_ne rfl) h)
        refine s_aload_n (i := 0) dX12_wrap_53 rfl rfl ?_
        refine s_iload dX12_wrap_54 rfl ?_
        refine s_iload_n (i := 3) dX12_wrap_56 rfl rfl ?_
        refine s_isub dX12_wrap_57 ?_
        refine s_callVi (C := mX12_gives) (As := [.int (τ31 - x3)]) (rest := []) (L0 := [some (.ref (o_ad X a0)), some (.int (τ31 - x3))]) hX h0 clX12_91 dX12_wrap_58 rfl rfl (Nat.le_of_ble_eq_true rfl) (Nat.le_of_ble_eq_true rfl) (dnX12_gives hX h0 (o_bdp h)) (fun r3 μ4 h => ?_)
        exact s_ireturn rfl dX12_wrap_61 ⟨_, rfl, o_ret h⟩
      · have h := o_if_t rfl (o_if_f (o_ne rfl) (ke31 (68, τ31) μ3 (o_ne rfl) h))
        refine s_aload_n (i := 0) dX12_wrap_68 rfl rfl ?_
        refine s_bipush dX12_wrap_69 kB_6 ?_
        refine s_callVi (C := mX12_refuse) (As := [.int 6]) (rest := []) (L0 := [some (.ref (o_ad X a0)), some (.int 6)]) hX h0 clX12_87 dX12_wrap_71 rfl rfl (Nat.le_of_ble_eq_true rfl) (Nat.le_of_ble_eq_true rfl) (dnX12_refuse hX h0 (o_bdp h)) (fun r4 μ5 h => ?_)
        exact s_ireturn rfl dX12_wrap_74 ⟨_, rfl, o_ret h⟩
    · have h := o_if_t c1 h
      refine s_mask [true, false, false, false, false, false, false] (L' := [some (.ref (o_ad X a0)), none, none, none, none, none, none]) rfl ?_
      exact dnX12_wrap_j22 hX h0 h
theorem dX12_isAsked_0 : decode cX12_isAsked 0 = .ok (.aload_n 0, 1) := by decide +kernel
theorem dX12_isAsked_1 : decode cX12_isAsked 1 = .ok (.iload_n 1, 1) := by decide +kernel
theorem dX12_isAsked_2 : decode cX12_isAsked 2 = .ok (.iload_n 2, 1) := by decide +kernel
theorem dX12_isAsked_3 : decode cX12_isAsked 3 = .ok (.invokevirtual 274, 3) := by decide +kernel
theorem dX12_isAsked_6 : decode cX12_isAsked 6 = .ok (.ifCond .eq 25, 3) := by decide +kernel
theorem dX12_isAsked_9 : decode cX12_isAsked 9 = .ok (.aload_n 0, 1) := by decide +kernel
theorem dX12_isAsked_10 : decode cX12_isAsked 10 = .ok (.iload_n 3, 1) := by decide +kernel
theorem dX12_isAsked_11 : decode cX12_isAsked 11 = .ok (.invokevirtual 281, 3) := by decide +kernel
theorem dX12_isAsked_14 : decode cX12_isAsked 14 = .ok (.ifCond .eq 17, 3) := by decide +kernel
theorem dX12_isAsked_17 : decode cX12_isAsked 17 = .ok (.aload_n 0, 1) := by decide +kernel
theorem dX12_isAsked_18 : decode cX12_isAsked 18 = .ok (.iload 4, 2) := by decide +kernel
theorem dX12_isAsked_20 : decode cX12_isAsked 20 = .ok (.i2l, 1) := by decide +kernel
theorem dX12_isAsked_21 : decode cX12_isAsked 21 = .ok (.invokevirtual 284, 3) := by decide +kernel
theorem dX12_isAsked_24 : decode cX12_isAsked 24 = .ok (.ifCond .eq 7, 3) := by decide +kernel
theorem dX12_isAsked_27 : decode cX12_isAsked 27 = .ok (.iconst 1, 1) := by decide +kernel
theorem dX12_isAsked_28 : decode cX12_isAsked 28 = .ok (.goto 4, 3) := by decide +kernel
theorem dX12_isAsked_31 : decode cX12_isAsked 31 = .ok (.iconst 0, 1) := by decide +kernel
theorem dX12_isAsked_32 : decode cX12_isAsked 32 = .ok (.ireturn, 1) := by decide +kernel
noncomputable def fX12_isAsked (rf : Nat → Nat → Nat) (a0 : Nat) (x1 : Int32) (x2 : Int32) (x3 : Int32) (x4 : Int32) (μ0 : o_Mem) : Option (Int32 × o_Mem) :=
  o_bd (fX12_areTwo rf a0 x1 x2 μ0) fun r1 μ1 =>
  if r1 = 0 then (
    some (0, μ1))
  else (
    o_bd (fX12_isHand rf a0 x3 μ1) fun r2 μ2 =>
    if r2 = 0 then (
      some (0, μ2))
    else (
      o_bd (fX12_isStrike rf a0 x4.toInt64 μ2) fun r3 μ3 =>
      if r3 = 0 then (
        some (0, μ3))
      else (
        some (1, μ3))))
set_option maxRecDepth 20000 in
theorem dnX12_isAsked {X : o_Cx} (hX : o_ok X) {d : Nat} {a0 : Nat} {x1 : Int32} {x2 : Int32} {x3 : Int32} {x4 : Int32} {μ0 : o_Mem} {q : Int32 → o_Mem → Prop} (h0 : o_is X a0 (.inl 12)) (h : o_Post (fX12_isAsked (o_rf X) a0 x1 x2 x3 x4 μ0) q) : o_Ev X (d + 2) mX12_isAsked 0 [some (.ref (o_ad X a0)), some (.int x1), some (.int x2), some (.int x3), some (.int x4)] [] μ0 (o_QZ q) := by
  unfold fX12_isAsked at h
  refine s_aload_n (i := 0) dX12_isAsked_0 rfl rfl ?_
  refine s_iload_n (i := 1) dX12_isAsked_1 rfl rfl ?_
  refine s_iload_n (i := 2) dX12_isAsked_2 rfl rfl ?_
  refine s_callVz (C := mX12_areTwo) (As := [.int x1, .int x2]) (rest := []) (L0 := [some (.ref (o_ad X a0)), some (.int x1), some (.int x2)]) hX h0 clX12_274 dX12_isAsked_3 rfl rfl (Nat.le_of_ble_eq_true rfl) (Nat.le_of_ble_eq_true rfl) (dnX12_areTwo hX h0 (o_bdp h)) (fun r1 μ1 zr1 h => ?_)
  refine s_if_eq (tgt := 31) dX12_isAsked_6 rfl (fun c1 => ?_) (fun c1 => ?_)
  · have h := o_if_t c1 h
    refine s_iconst dX12_isAsked_31 kI_0 ?_
    exact s_zreturn rfl (Or.inl rfl) dX12_isAsked_32 ⟨_, rfl, (Or.inl rfl), o_ret h⟩
  · have h := o_if_f c1 h
    refine s_aload_n (i := 0) dX12_isAsked_9 rfl rfl ?_
    refine s_iload_n (i := 3) dX12_isAsked_10 rfl rfl ?_
    refine s_callVz (C := mX12_isHand) (As := [.int x3]) (rest := []) (L0 := [some (.ref (o_ad X a0)), some (.int x3)]) hX h0 clX12_281 dX12_isAsked_11 rfl rfl (Nat.le_of_ble_eq_true rfl) (Nat.le_of_ble_eq_true rfl) (dnX12_isHand hX h0 (o_bdp h)) (fun r2 μ2 zr2 h => ?_)
    refine s_if_eq (tgt := 31) dX12_isAsked_14 rfl (fun c1 => ?_) (fun c1 => ?_)
    · have h := o_if_t c1 h
      refine s_iconst dX12_isAsked_31 kI_0 ?_
      exact s_zreturn rfl (Or.inl rfl) dX12_isAsked_32 ⟨_, rfl, (Or.inl rfl), o_ret h⟩
    · have h := o_if_f c1 h
      refine s_aload_n (i := 0) dX12_isAsked_17 rfl rfl ?_
      refine s_iload dX12_isAsked_18 rfl ?_
      refine s_i2l dX12_isAsked_20 ?_
      refine s_callVz (C := mX12_isStrike) (As := [.long x4.toInt64]) (rest := []) (L0 := [some (.ref (o_ad X a0)), some (.long x4.toInt64), none]) hX h0 clX12_284 dX12_isAsked_21 rfl rfl (Nat.le_of_ble_eq_true rfl) (Nat.le_of_ble_eq_true rfl) (dnX12_isStrike hX h0 (o_bdp h)) (fun r3 μ3 zr3 h => ?_)
      refine s_if_eq (tgt := 31) dX12_isAsked_24 rfl (fun c1 => ?_) (fun c1 => ?_)
      · have h := o_if_t c1 h
        refine s_iconst dX12_isAsked_31 kI_0 ?_
        exact s_zreturn rfl (Or.inl rfl) dX12_isAsked_32 ⟨_, rfl, (Or.inl rfl), o_ret h⟩
      · have h := o_if_f c1 h
        refine s_iconst dX12_isAsked_27 kI_1 ?_
        refine s_goto (tgt := 32) dX12_isAsked_28 rfl ?_
        exact s_zreturn rfl (Or.inr rfl) dX12_isAsked_32 ⟨_, rfl, (Or.inr rfl), o_ret h⟩
theorem dX12_weights_0 : decode cX12_weights 0 = .ok (.aload_n 0, 1) := by decide +kernel
theorem dX12_weights_1 : decode cX12_weights 1 = .ok (.iload_n 1, 1) := by decide +kernel
theorem dX12_weights_2 : decode cX12_weights 2 = .ok (.iload_n 2, 1) := by decide +kernel
theorem dX12_weights_3 : decode cX12_weights 3 = .ok (.iload_n 3, 1) := by decide +kernel
theorem dX12_weights_4 : decode cX12_weights 4 = .ok (.iload 4, 2) := by decide +kernel
theorem dX12_weights_6 : decode cX12_weights 6 = .ok (.invokevirtual 363, 3) := by decide +kernel
theorem dX12_weights_9 : decode cX12_weights 9 = .ok (.ifCond .ne 9, 3) := by decide +kernel
theorem dX12_weights_12 : decode cX12_weights 12 = .ok (.aload_n 0, 1) := by decide +kernel
theorem dX12_weights_13 : decode cX12_weights 13 = .ok (.iconst 1, 1) := by decide +kernel
theorem dX12_weights_14 : decode cX12_weights 14 = .ok (.invokevirtual 87, 3) := by decide +kernel
theorem dX12_weights_17 : decode cX12_weights 17 = .ok (.ireturn, 1) := by decide +kernel
theorem dX12_weights_18 : decode cX12_weights 18 = .ok (.iconst 0, 1) := by decide +kernel
theorem dX12_weights_19 : decode cX12_weights 19 = .ok (.istore 5, 2) := by decide +kernel
theorem dX12_weights_21 : decode cX12_weights 21 = .ok (.iconst 1, 1) := by decide +kernel
theorem dX12_weights_22 : decode cX12_weights 22 = .ok (.istore 6, 2) := by decide +kernel
theorem dX12_weights_24 : decode cX12_weights 24 = .ok (.iload 6, 2) := by decide +kernel
theorem dX12_weights_26 : decode cX12_weights 26 = .ok (.bipush 99, 2) := by decide +kernel
theorem dX12_weights_28 : decode cX12_weights 28 = .ok (.if_icmp .gt 33, 3) := by decide +kernel
theorem dX12_weights_31 : decode cX12_weights 31 = .ok (.iload 5, 2) := by decide +kernel
theorem dX12_weights_33 : decode cX12_weights 33 = .ok (.aload_n 0, 1) := by decide +kernel
theorem dX12_weights_34 : decode cX12_weights 34 = .ok (.iload_n 1, 1) := by decide +kernel
theorem dX12_weights_35 : decode cX12_weights 35 = .ok (.iload_n 2, 1) := by decide +kernel
theorem dX12_weights_36 : decode cX12_weights 36 = .ok (.iload 6, 2) := by decide +kernel
theorem dX12_weights_38 : decode cX12_weights 38 = .ok (.iload_n 3, 1) := by decide +kernel
theorem dX12_weights_39 : decode cX12_weights 39 = .ok (.invokevirtual 325, 3) := by decide +kernel
theorem dX12_weights_42 : decode cX12_weights 42 = .ok (.iload 4, 2) := by decide +kernel
theorem dX12_weights_44 : decode cX12_weights 44 = .ok (.if_icmp .ne 7, 3) := by decide +kernel
theorem dX12_weights_47 : decode cX12_weights 47 = .ok (.iconst 1, 1) := by decide +kernel
theorem dX12_weights_48 : decode cX12_weights 48 = .ok (.goto 4, 3) := by decide +kernel
theorem dX12_weights_51 : decode cX12_weights 51 = .ok (.iconst 0, 1) := by decide +kernel
theorem dX12_weights_52 : decode cX12_weights 52 = .ok (.iadd, 1) := by decide +kernel
theorem dX12_weights_53 : decode cX12_weights 53 = .ok (.istore 5, 2) := by decide +kernel
theorem dX12_weights_55 : decode cX12_weights 55 = .ok (.iinc 6 1, 3) := by decide +kernel
theorem dX12_weights_58 : decode cX12_weights 58 = .ok (.goto (-34), 3) := by decide +kernel
theorem dX12_weights_61 : decode cX12_weights 61 = .ok (.aload_n 0, 1) := by decide +kernel
theorem dX12_weights_62 : decode cX12_weights 62 = .ok (.iload 5, 2) := by decide +kernel
theorem dX12_weights_64 : decode cX12_weights 64 = .ok (.invokevirtual 91, 3) := by decide +kernel
theorem dX12_weights_67 : decode cX12_weights 67 = .ok (.ireturn, 1) := by decide +kernel
noncomputable def fX12_weights_j52 (rf : Nat → Nat → Nat) (a0 : Nat) (x1 : Int32) (x2 : Int32) (x3 : Int32) (x4 : Int32) (x6 : Int32) (y0 : Int32) (y1 : Int32) (μ0 : o_Mem) : Option ((Nat × (Int32 × Int32)) × o_Mem) :=
  some ((24, ((y0 + y1), (x6 + 1))), μ0)
noncomputable def fX12_weights_s24 (rf : Nat → Nat → Nat) (a0 : Nat) (x1 : Int32) (x2 : Int32) (x3 : Int32) (x4 : Int32) (τ24 : Int32 × Int32) (μ0 : o_Mem) : Option ((Nat × (Int32 × Int32)) × o_Mem) :=
  if 99 < τ24.2 then (
    some ((61, (τ24.1, 0)), μ0))
  else (
    o_bd (fX12_sober rf a0 x1 x2 τ24.2 x3 μ0) fun r1 μ1 =>
    if r1 = x4 then (
      fX12_weights_j52 rf a0 x1 x2 x3 x4 τ24.2 τ24.1 1 μ1)
    else (
      fX12_weights_j52 rf a0 x1 x2 x3 x4 τ24.2 τ24.1 0 μ1))
noncomputable def fX12_weights (rf : Nat → Nat → Nat) (a0 : Nat) (x1 : Int32) (x2 : Int32) (x3 : Int32) (x4 : Int32) (μ0 : o_Mem) : Option (Int32 × o_Mem) :=
  o_bd (fX12_isAsked rf a0 x1 x2 x3 x4 μ0) fun r1 μ1 =>
  if r1 = 0 then (
    o_bd (fX12_refuse rf a0 1 μ1) fun r3 μ4 =>
    some (r3, μ4))
  else (
    o_bd (o_lp 24 (fX12_weights_s24 rf a0 x1 x2 x3 x4) o_fuel (0, 1) μ1) fun ex2 μ2 =>
    if ex2.1 = 61 then (
      o_bd (fX12_gives rf a0 ex2.2.1 μ2) fun r2 μ3 =>
      some (r2, μ3))
    else
      none)
set_option maxRecDepth 20000 in
theorem dnX12_weights_j52 {X : o_Cx} (hX : o_ok X) {d : Nat} {a0 : Nat} {x1 : Int32} {x2 : Int32} {x3 : Int32} {x4 : Int32} {x6 : Int32} {y0 : Int32} {y1 : Int32} {μ0 : o_Mem} {K : (Nat × (Int32 × Int32)) → o_Mem → Prop} {Q : Option Value → o_Mem → Prop} (h0 : o_is X a0 (.inl 12)) (h : o_Post (fX12_weights_j52 (o_rf X) a0 x1 x2 x3 x4 x6 y0 y1 μ0) K) (kh : ∀ (τ24 : Int32 × Int32) (μ : o_Mem), K (24, τ24) μ → o_Ev X (d + 4) mX12_weights 24 [some (.ref (o_ad X a0)), some (.int x1), some (.int x2), some (.int x3), some (.int x4), some (.int τ24.1), some (.int τ24.2)] [] μ Q) (k61 : ∀ (τ24 : Int32 × Int32) (μ : o_Mem), K (61, τ24) μ → o_Ev X (d + 4) mX12_weights 61 [some (.ref (o_ad X a0)), none, none, none, none, some (.int τ24.1), none] [] μ Q) : o_Ev X (d + 4) mX12_weights 52 [some (.ref (o_ad X a0)), some (.int x1), some (.int x2), some (.int x3), some (.int x4), none, some (.int x6)] [.int y1, .int y0] μ0 Q := by
  unfold fX12_weights_j52 at h
  refine s_iadd dX12_weights_52 ?_
  refine s_istore dX12_weights_53 (Nat.le_of_ble_eq_true rfl) rfl ?_
  refine s_iinc (v := (x6 + 1)) dX12_weights_55 rfl rfl (Nat.le_of_ble_eq_true rfl) rfl ?_
  refine s_goto (tgt := 24) dX12_weights_58 rfl ?_
  refine s_mask [true, true, true, true, true, true, true] (L' := [some (.ref (o_ad X a0)), some (.int x1), some (.int x2), some (.int x3), some (.int x4), some (.int (y0 + y1)), some (.int (x6 + 1))]) rfl ?_
  exact kh ((y0 + y1), (x6 + 1)) _ (o_ret h)
set_option maxRecDepth 20000 in
theorem dnX12_weights_s24 {X : o_Cx} (hX : o_ok X) {d : Nat} {a0 : Nat} {x1 : Int32} {x2 : Int32} {x3 : Int32} {x4 : Int32} {τ24 : Int32 × Int32} {μ0 : o_Mem} {K : (Nat × (Int32 × Int32)) → o_Mem → Prop} {Q : Option Value → o_Mem → Prop} (h0 : o_is X a0 (.inl 12)) (h : o_Post (fX12_weights_s24 (o_rf X) a0 x1 x2 x3 x4 τ24 μ0) K) (kh : ∀ (τ24 : Int32 × Int32) (μ : o_Mem), K (24, τ24) μ → o_Ev X (d + 4) mX12_weights 24 [some (.ref (o_ad X a0)), some (.int x1), some (.int x2), some (.int x3), some (.int x4), some (.int τ24.1), some (.int τ24.2)] [] μ Q) (k61 : ∀ (τ24 : Int32 × Int32) (μ : o_Mem), K (61, τ24) μ → o_Ev X (d + 4) mX12_weights 61 [some (.ref (o_ad X a0)), none, none, none, none, some (.int τ24.1), none] [] μ Q) : o_Ev X (d + 4) mX12_weights 24 [some (.ref (o_ad X a0)), some (.int x1), some (.int x2), some (.int x3), some (.int x4), some (.int τ24.1), some (.int τ24.2)] [] μ0 Q := by
  unfold fX12_weights_s24 at h
  refine s_iload dX12_weights_24 rfl ?_
  refine s_bipush dX12_weights_26 kB_99 ?_
  refine s_icmp_gt (tgt := 61) dX12_weights_28 rfl (fun c1 => ?_) (fun c1 => ?_)
  · have h := o_if_t c1 h
    refine s_mask [true, false, false, false, false, true, false] (L' := [some (.ref (o_ad X a0)), none, none, none, none, some (.int τ24.1), none]) rfl ?_
    exact k61 (τ24.1, 0) _ (o_ret h)
  · have h := o_if_f c1 h
    refine s_iload dX12_weights_31 rfl ?_
    refine s_aload_n (i := 0) dX12_weights_33 rfl rfl ?_
    refine s_iload_n (i := 1) dX12_weights_34 rfl rfl ?_
    refine s_iload_n (i := 2) dX12_weights_35 rfl rfl ?_
    refine s_iload dX12_weights_36 rfl ?_
    refine s_iload_n (i := 3) dX12_weights_38 rfl rfl ?_
    refine s_callVi (C := mX12_sober) (As := [.int x1, .int x2, .int τ24.2, .int x3]) (rest := [.int τ24.1]) (L0 := [some (.ref (o_ad X a0)), some (.int x1), some (.int x2), some (.int τ24.2), some (.int x3)]) hX h0 clX12_325 dX12_weights_39 rfl rfl (Nat.le_of_ble_eq_true rfl) (Nat.le_of_ble_eq_true rfl) (dnX12_sober hX h0 (o_bdp h)) (fun r1 μ1 h => ?_)
    refine s_iload dX12_weights_42 rfl ?_
    refine s_icmp_ne (tgt := 51) dX12_weights_44 rfl (fun c1 => ?_) (fun c1 => ?_)
    · have h := o_if_f c1 h
      refine s_iconst dX12_weights_51 kI_0 ?_
      refine s_mask [true, true, true, true, true, false, true] (L' := [some (.ref (o_ad X a0)), some (.int x1), some (.int x2), some (.int x3), some (.int x4), none, some (.int τ24.2)]) rfl ?_
      exact dnX12_weights_j52 hX h0 h kh k61
    · have h := o_if_t c1 h
      refine s_iconst dX12_weights_47 kI_1 ?_
      refine s_goto (tgt := 52) dX12_weights_48 rfl ?_
      refine s_mask [true, true, true, true, true, false, true] (L' := [some (.ref (o_ad X a0)), some (.int x1), some (.int x2), some (.int x3), some (.int x4), none, some (.int τ24.2)]) rfl ?_
      exact dnX12_weights_j52 hX h0 h kh k61
set_option maxRecDepth 20000 in
theorem dnX12_weights {X : o_Cx} (hX : o_ok X) {d : Nat} {a0 : Nat} {x1 : Int32} {x2 : Int32} {x3 : Int32} {x4 : Int32} {μ0 : o_Mem} {q : Int32 → o_Mem → Prop} (h0 : o_is X a0 (.inl 12)) (h : o_Post (fX12_weights (o_rf X) a0 x1 x2 x3 x4 μ0) q) : o_Ev X (d + 4) mX12_weights 0 [some (.ref (o_ad X a0)), some (.int x1), some (.int x2), some (.int x3), some (.int x4), none, none] [] μ0 (o_QI q) := by
  unfold fX12_weights at h
  refine s_aload_n (i := 0) dX12_weights_0 rfl rfl ?_
  refine s_iload_n (i := 1) dX12_weights_1 rfl rfl ?_
  refine s_iload_n (i := 2) dX12_weights_2 rfl rfl ?_
  refine s_iload_n (i := 3) dX12_weights_3 rfl rfl ?_
  refine s_iload dX12_weights_4 rfl ?_
  refine s_callVz (C := mX12_isAsked) (As := [.int x1, .int x2, .int x3, .int x4]) (rest := []) (L0 := [some (.ref (o_ad X a0)), some (.int x1), some (.int x2), some (.int x3), some (.int x4)]) hX h0 clX12_363 dX12_weights_6 rfl rfl (Nat.le_of_ble_eq_true rfl) (Nat.le_of_ble_eq_true rfl) (dnX12_isAsked hX h0 (o_bdp h)) (fun r1 μ1 zr1 h => ?_)
  refine s_if_ne (tgt := 18) dX12_weights_9 rfl (fun c1 => ?_) (fun c1 => ?_)
  · have h := o_if_f c1 h
    refine s_iconst dX12_weights_18 kI_0 ?_
    refine s_istore dX12_weights_19 (Nat.le_of_ble_eq_true rfl) rfl ?_
    refine s_iconst dX12_weights_21 kI_1 ?_
    refine s_istore dX12_weights_22 (Nat.le_of_ble_eq_true rfl) rfl ?_
    refine s_mask [true, true, true, true, true, true, true] (L' := [some (.ref (o_ad X a0)), some (.int x1), some (.int x2), some (.int x3), some (.int x4), some (.int 0), some (.int 1)]) rfl ?_
    refine o_lp_ev (fun τ24 => [some (.ref (o_ad X a0)), some (.int x1), some (.int x2), some (.int x3), some (.int x4), some (.int τ24.1), some (.int τ24.2)]) (fun τ24 μ _K h kv ke24 => dnX12_weights_s24 hX h0 h kv (fun τ24 μ2 h => ?_)) o_fuel (0, 1) μ1 (o_bdp h)
    · have h := o_if_t rfl (ke24 (61, τ24) μ2 (o_ne rfl) h)
      refine s_aload_n (i := 0) dX12_weights_61 rfl rfl ?_
      refine s_iload dX12_weights_62 rfl ?_
      refine s_callVi (C := mX12_gives) (As := [.int τ24.1]) (rest := []) (L0 := [some (.ref (o_ad X a0)), some (.int τ24.1)]) hX h0 clX12_91 dX12_weights_64 rfl rfl (Nat.le_of_ble_eq_true rfl) (Nat.le_of_ble_eq_true rfl) (dnX12_gives hX h0 (o_bdp h)) (fun r2 μ3 h => ?_)
      exact s_ireturn rfl dX12_weights_67 ⟨_, rfl, o_ret h⟩
  · have h := o_if_t c1 h
    refine s_aload_n (i := 0) dX12_weights_12 rfl rfl ?_
    refine s_iconst dX12_weights_13 kI_1 ?_
    refine s_callVi (C := mX12_refuse) (As := [.int 1]) (rest := []) (L0 := [some (.ref (o_ad X a0)), some (.int 1)]) hX h0 clX12_87 dX12_weights_14 rfl rfl (Nat.le_of_ble_eq_true rfl) (Nat.le_of_ble_eq_true rfl) (dnX12_refuse hX h0 (o_bdp h)) (fun r3 μ4 h => ?_)
    exact s_ireturn rfl dX12_weights_17 ⟨_, rfl, o_ret h⟩
theorem dX12_weightAt_0 : decode cX12_weightAt 0 = .ok (.aload_n 0, 1) := by decide +kernel
theorem dX12_weightAt_1 : decode cX12_weightAt 1 = .ok (.iload_n 1, 1) := by decide +kernel
theorem dX12_weightAt_2 : decode cX12_weightAt 2 = .ok (.iload_n 2, 1) := by decide +kernel
theorem dX12_weightAt_3 : decode cX12_weightAt 3 = .ok (.iload_n 3, 1) := by decide +kernel
theorem dX12_weightAt_4 : decode cX12_weightAt 4 = .ok (.iload 4, 2) := by decide +kernel
theorem dX12_weightAt_6 : decode cX12_weightAt 6 = .ok (.invokevirtual 363, 3) := by decide +kernel
theorem dX12_weightAt_9 : decode cX12_weightAt 9 = .ok (.ifCond .eq 14, 3) := by decide +kernel
theorem dX12_weightAt_12 : decode cX12_weightAt 12 = .ok (.iload 5, 2) := by decide +kernel
theorem dX12_weightAt_14 : decode cX12_weightAt 14 = .ok (.ifCond .lt 9, 3) := by decide +kernel
theorem dX12_weightAt_17 : decode cX12_weightAt 17 = .ok (.iload 5, 2) := by decide +kernel
theorem dX12_weightAt_19 : decode cX12_weightAt 19 = .ok (.iconst 1, 1) := by decide +kernel
theorem dX12_weightAt_20 : decode cX12_weightAt 20 = .ok (.if_icmp .le 9, 3) := by decide +kernel
theorem dX12_weightAt_23 : decode cX12_weightAt 23 = .ok (.aload_n 0, 1) := by decide +kernel
theorem dX12_weightAt_24 : decode cX12_weightAt 24 = .ok (.iconst 1, 1) := by decide +kernel
theorem dX12_weightAt_25 : decode cX12_weightAt 25 = .ok (.invokevirtual 87, 3) := by decide +kernel
theorem dX12_weightAt_28 : decode cX12_weightAt 28 = .ok (.ireturn, 1) := by decide +kernel
theorem dX12_weightAt_29 : decode cX12_weightAt 29 = .ok (.iconst (-1), 1) := by decide +kernel
theorem dX12_weightAt_30 : decode cX12_weightAt 30 = .ok (.istore 6, 2) := by decide +kernel
theorem dX12_weightAt_32 : decode cX12_weightAt 32 = .ok (.iconst 1, 1) := by decide +kernel
theorem dX12_weightAt_33 : decode cX12_weightAt 33 = .ok (.istore 7, 2) := by decide +kernel
theorem dX12_weightAt_35 : decode cX12_weightAt 35 = .ok (.iload 7, 2) := by decide +kernel
theorem dX12_weightAt_37 : decode cX12_weightAt 37 = .ok (.bipush 99, 2) := by decide +kernel
theorem dX12_weightAt_39 : decode cX12_weightAt 39 = .ok (.if_icmp .gt 39, 3) := by decide +kernel
theorem dX12_weightAt_42 : decode cX12_weightAt 42 = .ok (.aload_n 0, 1) := by decide +kernel
theorem dX12_weightAt_43 : decode cX12_weightAt 43 = .ok (.iload_n 1, 1) := by decide +kernel
theorem dX12_weightAt_44 : decode cX12_weightAt 44 = .ok (.iload_n 2, 1) := by decide +kernel
theorem dX12_weightAt_45 : decode cX12_weightAt 45 = .ok (.iload 7, 2) := by decide +kernel
theorem dX12_weightAt_47 : decode cX12_weightAt 47 = .ok (.iload_n 3, 1) := by decide +kernel
theorem dX12_weightAt_48 : decode cX12_weightAt 48 = .ok (.invokevirtual 325, 3) := by decide +kernel
theorem dX12_weightAt_51 : decode cX12_weightAt 51 = .ok (.iload 4, 2) := by decide +kernel
theorem dX12_weightAt_53 : decode cX12_weightAt 53 = .ok (.if_icmp .ne 19, 3) := by decide +kernel
theorem dX12_weightAt_56 : decode cX12_weightAt 56 = .ok (.iload 6, 2) := by decide +kernel
theorem dX12_weightAt_58 : decode cX12_weightAt 58 = .ok (.iconst (-1), 1) := by decide +kernel
theorem dX12_weightAt_59 : decode cX12_weightAt 59 = .ok (.if_icmp .eq 9, 3) := by decide +kernel
theorem dX12_weightAt_62 : decode cX12_weightAt 62 = .ok (.iload 5, 2) := by decide +kernel
theorem dX12_weightAt_64 : decode cX12_weightAt 64 = .ok (.iconst 1, 1) := by decide +kernel
theorem dX12_weightAt_65 : decode cX12_weightAt 65 = .ok (.if_icmp .ne 7, 3) := by decide +kernel
theorem dX12_weightAt_68 : decode cX12_weightAt 68 = .ok (.iload 7, 2) := by decide +kernel
theorem dX12_weightAt_70 : decode cX12_weightAt 70 = .ok (.istore 6, 2) := by decide +kernel
theorem dX12_weightAt_72 : decode cX12_weightAt 72 = .ok (.iinc 7 1, 3) := by decide +kernel
theorem dX12_weightAt_75 : decode cX12_weightAt 75 = .ok (.goto (-40), 3) := by decide +kernel
theorem dX12_weightAt_78 : decode cX12_weightAt 78 = .ok (.aload_n 0, 1) := by decide +kernel
theorem dX12_weightAt_79 : decode cX12_weightAt 79 = .ok (.iload 6, 2) := by decide +kernel
theorem dX12_weightAt_81 : decode cX12_weightAt 81 = .ok (.invokevirtual 299, 3) := by decide +kernel
theorem dX12_weightAt_84 : decode cX12_weightAt 84 = .ok (.ireturn, 1) := by decide +kernel
noncomputable def fX12_weightAt_j23 (rf : Nat → Nat → Nat) (a0 : Nat) (μ0 : o_Mem) : Option (Int32 × o_Mem) :=
  o_bd (fX12_refuse rf a0 1 μ0) fun r1 μ1 =>
  some (r1, μ1)
noncomputable def fX12_weightAt_j68 (rf : Nat → Nat → Nat) (a0 : Nat) (x1 : Int32) (x2 : Int32) (x3 : Int32) (x4 : Int32) (x5 : Int32) (x7 : Int32) (μ0 : o_Mem) : Option ((Nat × (Int32 × Int32)) × o_Mem) :=
  some ((35, (x7, (x7 + 1))), μ0)
noncomputable def fX12_weightAt_s35 (rf : Nat → Nat → Nat) (a0 : Nat) (x1 : Int32) (x2 : Int32) (x3 : Int32) (x4 : Int32) (x5 : Int32) (τ35 : Int32 × Int32) (μ0 : o_Mem) : Option ((Nat × (Int32 × Int32)) × o_Mem) :=
  if 99 < τ35.2 then (
    some ((78, (τ35.1, 0)), μ0))
  else (
    o_bd (fX12_sober rf a0 x1 x2 τ35.2 x3 μ0) fun r1 μ1 =>
    if r1 = x4 then (
      if τ35.1 = (-1) then (
        fX12_weightAt_j68 rf a0 x1 x2 x3 x4 x5 τ35.2 μ1)
      else (
        if x5 = 1 then (
          fX12_weightAt_j68 rf a0 x1 x2 x3 x4 x5 τ35.2 μ1)
        else (
          some ((35, (τ35.1, (τ35.2 + 1))), μ1))))
    else (
      some ((35, (τ35.1, (τ35.2 + 1))), μ1)))
noncomputable def fX12_weightAt (rf : Nat → Nat → Nat) (a0 : Nat) (x1 : Int32) (x2 : Int32) (x3 : Int32) (x4 : Int32) (x5 : Int32) (μ0 : o_Mem) : Option (Int32 × o_Mem) :=
  o_bd (fX12_isAsked rf a0 x1 x2 x3 x4 μ0) fun r1 μ1 =>
  if r1 = 0 then (
    fX12_weightAt_j23 rf a0 μ1)
  else (
    if x5 < 0 then (
      fX12_weightAt_j23 rf a0 μ1)
    else (
      if x5 ≤ 1 then (
        o_bd (o_lp 35 (fX12_weightAt_s35 rf a0 x1 x2 x3 x4 x5) o_fuel ((-1), 1) μ1) fun ex2 μ2 =>
        if ex2.1 = 78 then (
          o_bd (fX12_orNone rf a0 ex2.2.1 μ2) fun r2 μ3 =>
          some (r2, μ3))
        else
          none)
      else (
        fX12_weightAt_j23 rf a0 μ1)))
set_option maxRecDepth 20000 in
theorem dnX12_weightAt_j23 {X : o_Cx} (hX : o_ok X) {d : Nat} {a0 : Nat} {μ0 : o_Mem} {q : Int32 → o_Mem → Prop} (h0 : o_is X a0 (.inl 12)) (h : o_Post (fX12_weightAt_j23 (o_rf X) a0 μ0) q) : o_Ev X (d + 4) mX12_weightAt 23 [some (.ref (o_ad X a0)), none, none, none, none, none, none, none] [] μ0 (o_QI q) := by
  unfold fX12_weightAt_j23 at h
  refine s_aload_n (i := 0) dX12_weightAt_23 rfl rfl ?_
  refine s_iconst dX12_weightAt_24 kI_1 ?_
  refine s_callVi (C := mX12_refuse) (As := [.int 1]) (rest := []) (L0 := [some (.ref (o_ad X a0)), some (.int 1)]) hX h0 clX12_87 dX12_weightAt_25 rfl rfl (Nat.le_of_ble_eq_true rfl) (Nat.le_of_ble_eq_true rfl) (dnX12_refuse hX h0 (o_bdp h)) (fun r1 μ1 h => ?_)
  exact s_ireturn rfl dX12_weightAt_28 ⟨_, rfl, o_ret h⟩
set_option maxRecDepth 20000 in
theorem dnX12_weightAt_j68 {X : o_Cx} (hX : o_ok X) {d : Nat} {a0 : Nat} {x1 : Int32} {x2 : Int32} {x3 : Int32} {x4 : Int32} {x5 : Int32} {x7 : Int32} {μ0 : o_Mem} {K : (Nat × (Int32 × Int32)) → o_Mem → Prop} {Q : Option Value → o_Mem → Prop} (h0 : o_is X a0 (.inl 12)) (h : o_Post (fX12_weightAt_j68 (o_rf X) a0 x1 x2 x3 x4 x5 x7 μ0) K) (kh : ∀ (τ35 : Int32 × Int32) (μ : o_Mem), K (35, τ35) μ → o_Ev X (d + 4) mX12_weightAt 35 [some (.ref (o_ad X a0)), some (.int x1), some (.int x2), some (.int x3), some (.int x4), some (.int x5), some (.int τ35.1), some (.int τ35.2)] [] μ Q) (k78 : ∀ (τ35 : Int32 × Int32) (μ : o_Mem), K (78, τ35) μ → o_Ev X (d + 4) mX12_weightAt 78 [some (.ref (o_ad X a0)), none, none, none, none, none, some (.int τ35.1), none] [] μ Q) : o_Ev X (d + 4) mX12_weightAt 68 [some (.ref (o_ad X a0)), some (.int x1), some (.int x2), some (.int x3), some (.int x4), some (.int x5), none, some (.int x7)] [] μ0 Q := by
  unfold fX12_weightAt_j68 at h
  refine s_iload dX12_weightAt_68 rfl ?_
  refine s_istore dX12_weightAt_70 (Nat.le_of_ble_eq_true rfl) rfl ?_
  refine s_iinc (v := (x7 + 1)) dX12_weightAt_72 rfl rfl (Nat.le_of_ble_eq_true rfl) rfl ?_
  refine s_goto (tgt := 35) dX12_weightAt_75 rfl ?_
  refine s_mask [true, true, true, true, true, true, true, true] (L' := [some (.ref (o_ad X a0)), some (.int x1), some (.int x2), some (.int x3), some (.int x4), some (.int x5), some (.int x7), some (.int (x7 + 1))]) rfl ?_
  exact kh (x7, (x7 + 1)) _ (o_ret h)
set_option maxRecDepth 20000 in
theorem dnX12_weightAt_s35 {X : o_Cx} (hX : o_ok X) {d : Nat} {a0 : Nat} {x1 : Int32} {x2 : Int32} {x3 : Int32} {x4 : Int32} {x5 : Int32} {τ35 : Int32 × Int32} {μ0 : o_Mem} {K : (Nat × (Int32 × Int32)) → o_Mem → Prop} {Q : Option Value → o_Mem → Prop} (h0 : o_is X a0 (.inl 12)) (h : o_Post (fX12_weightAt_s35 (o_rf X) a0 x1 x2 x3 x4 x5 τ35 μ0) K) (kh : ∀ (τ35 : Int32 × Int32) (μ : o_Mem), K (35, τ35) μ → o_Ev X (d + 4) mX12_weightAt 35 [some (.ref (o_ad X a0)), some (.int x1), some (.int x2), some (.int x3), some (.int x4), some (.int x5), some (.int τ35.1), some (.int τ35.2)] [] μ Q) (k78 : ∀ (τ35 : Int32 × Int32) (μ : o_Mem), K (78, τ35) μ → o_Ev X (d + 4) mX12_weightAt 78 [some (.ref (o_ad X a0)), none, none, none, none, none, some (.int τ35.1), none] [] μ Q) : o_Ev X (d + 4) mX12_weightAt 35 [some (.ref (o_ad X a0)), some (.int x1), some (.int x2), some (.int x3), some (.int x4), some (.int x5), some (.int τ35.1), some (.int τ35.2)] [] μ0 Q := by
  unfold fX12_weightAt_s35 at h
  refine s_iload dX12_weightAt_35 rfl ?_
  refine s_bipush dX12_weightAt_37 kB_99 ?_
  refine s_icmp_gt (tgt := 78) dX12_weightAt_39 rfl (fun c1 => ?_) (fun c1 => ?_)
  · have h := o_if_t c1 h
    refine s_mask [true, false, false, false, false, false, true, false] (L' := [some (.ref (o_ad X a0)), none, none, none, none, none, some (.int τ35.1), none]) rfl ?_
    exact k78 (τ35.1, 0) _ (o_ret h)
  · have h := o_if_f c1 h
    refine s_aload_n (i := 0) dX12_weightAt_42 rfl rfl ?_
    refine s_iload_n (i := 1) dX12_weightAt_43 rfl rfl ?_
    refine s_iload_n (i := 2) dX12_weightAt_44 rfl rfl ?_
    refine s_iload dX12_weightAt_45 rfl ?_
    refine s_iload_n (i := 3) dX12_weightAt_47 rfl rfl ?_
    refine s_callVi (C := mX12_sober) (As := [.int x1, .int x2, .int τ35.2, .int x3]) (rest := []) (L0 := [some (.ref (o_ad X a0)), some (.int x1), some (.int x2), some (.int τ35.2), some (.int x3)]) hX h0 clX12_325 dX12_weightAt_48 rfl rfl (Nat.le_of_ble_eq_true rfl) (Nat.le_of_ble_eq_true rfl) (dnX12_sober hX h0 (o_bdp h)) (fun r1 μ1 h => ?_)
    refine s_iload dX12_weightAt_51 rfl ?_
    refine s_icmp_ne (tgt := 72) dX12_weightAt_53 rfl (fun c1 => ?_) (fun c1 => ?_)
    · have h := o_if_f c1 h
      refine s_iinc (v := (τ35.2 + 1)) dX12_weightAt_72 rfl rfl (Nat.le_of_ble_eq_true rfl) rfl ?_
      refine s_goto (tgt := 35) dX12_weightAt_75 rfl ?_
      refine s_mask [true, true, true, true, true, true, true, true] (L' := [some (.ref (o_ad X a0)), some (.int x1), some (.int x2), some (.int x3), some (.int x4), some (.int x5), some (.int τ35.1), some (.int (τ35.2 + 1))]) rfl ?_
      exact kh (τ35.1, (τ35.2 + 1)) _ (o_ret h)
    · have h := o_if_t c1 h
      refine s_iload dX12_weightAt_56 rfl ?_
      refine s_iconst dX12_weightAt_58 kI_m1 ?_
      refine s_icmp_eq (tgt := 68) dX12_weightAt_59 rfl (fun c1 => ?_) (fun c1 => ?_)
      · have h := o_if_t c1 h
        refine s_mask [true, true, true, true, true, true, false, true] (L' := [some (.ref (o_ad X a0)), some (.int x1), some (.int x2), some (.int x3), some (.int x4), some (.int x5), none, some (.int τ35.2)]) rfl ?_
        exact dnX12_weightAt_j68 hX h0 h kh k78
      · have h := o_if_f c1 h
        refine s_iload dX12_weightAt_62 rfl ?_
        refine s_iconst dX12_weightAt_64 kI_1 ?_
        refine s_icmp_ne (tgt := 72) dX12_weightAt_65 rfl (fun c1 => ?_) (fun c1 => ?_)
        · have h := o_if_f c1 h
          refine s_iinc (v := (τ35.2 + 1)) dX12_weightAt_72 rfl rfl (Nat.le_of_ble_eq_true rfl) rfl ?_
          refine s_goto (tgt := 35) dX12_weightAt_75 rfl ?_
          refine s_mask [true, true, true, true, true, true, true, true] (L' := [some (.ref (o_ad X a0)), some (.int x1), some (.int x2), some (.int x3), some (.int x4), some (.int x5), some (.int τ35.1), some (.int (τ35.2 + 1))]) rfl ?_
          exact kh (τ35.1, (τ35.2 + 1)) _ (o_ret h)
        · have h := o_if_t c1 h
          refine s_mask [true, true, true, true, true, true, false, true] (L' := [some (.ref (o_ad X a0)), some (.int x1), some (.int x2), some (.int x3), some (.int x4), some (.int x5), none, some (.int τ35.2)]) rfl ?_
          exact dnX12_weightAt_j68 hX h0 h kh k78
set_option maxRecDepth 20000 in
theorem dnX12_weightAt {X : o_Cx} (hX : o_ok X) {d : Nat} {a0 : Nat} {x1 : Int32} {x2 : Int32} {x3 : Int32} {x4 : Int32} {x5 : Int32} {μ0 : o_Mem} {q : Int32 → o_Mem → Prop} (h0 : o_is X a0 (.inl 12)) (h : o_Post (fX12_weightAt (o_rf X) a0 x1 x2 x3 x4 x5 μ0) q) : o_Ev X (d + 4) mX12_weightAt 0 [some (.ref (o_ad X a0)), some (.int x1), some (.int x2), some (.int x3), some (.int x4), some (.int x5), none, none] [] μ0 (o_QI q) := by
  unfold fX12_weightAt at h
  refine s_aload_n (i := 0) dX12_weightAt_0 rfl rfl ?_
  refine s_iload_n (i := 1) dX12_weightAt_1 rfl rfl ?_
  refine s_iload_n (i := 2) dX12_weightAt_2 rfl rfl ?_
  refine s_iload_n (i := 3) dX12_weightAt_3 rfl rfl ?_
  refine s_iload dX12_weightAt_4 rfl ?_
  refine s_callVz (C := mX12_isAsked) (As := [.int x1, .int x2, .int x3, .int x4]) (rest := []) (L0 := [some (.ref (o_ad X a0)), some (.int x1), some (.int x2), some (.int x3), some (.int x4)]) hX h0 clX12_363 dX12_weightAt_6 rfl rfl (Nat.le_of_ble_eq_true rfl) (Nat.le_of_ble_eq_true rfl) (dnX12_isAsked hX h0 (o_bdp h)) (fun r1 μ1 zr1 h => ?_)
  refine s_if_eq (tgt := 23) dX12_weightAt_9 rfl (fun c1 => ?_) (fun c1 => ?_)
  · have h := o_if_t c1 h
    refine s_mask [true, false, false, false, false, false, false, false] (L' := [some (.ref (o_ad X a0)), none, none, none, none, none, none, none]) rfl ?_
    exact dnX12_weightAt_j23 hX h0 h
  · have h := o_if_f c1 h
    refine s_iload dX12_weightAt_12 rfl ?_
    refine s_if_lt (tgt := 23) dX12_weightAt_14 rfl (fun c1 => ?_) (fun c1 => ?_)
    · have h := o_if_t c1 h
      refine s_mask [true, false, false, false, false, false, false, false] (L' := [some (.ref (o_ad X a0)), none, none, none, none, none, none, none]) rfl ?_
      exact dnX12_weightAt_j23 hX h0 h
    · have h := o_if_f c1 h
      refine s_iload dX12_weightAt_17 rfl ?_
      refine s_iconst dX12_weightAt_19 kI_1 ?_
      refine s_icmp_le (tgt := 29) dX12_weightAt_20 rfl (fun c1 => ?_) (fun c1 => ?_)
      · have h := o_if_t c1 h
        refine s_iconst dX12_weightAt_29 kI_m1 ?_
        refine s_istore dX12_weightAt_30 (Nat.le_of_ble_eq_true rfl) rfl ?_
        refine s_iconst dX12_weightAt_32 kI_1 ?_
        refine s_istore dX12_weightAt_33 (Nat.le_of_ble_eq_true rfl) rfl ?_
        refine s_mask [true, true, true, true, true, true, true, true] (L' := [some (.ref (o_ad X a0)), some (.int x1), some (.int x2), some (.int x3), some (.int x4), some (.int x5), some (.int (-1)), some (.int 1)]) rfl ?_
        refine o_lp_ev (fun τ35 => [some (.ref (o_ad X a0)), some (.int x1), some (.int x2), some (.int x3), some (.int x4), some (.int x5), some (.int τ35.1), some (.int τ35.2)]) (fun τ35 μ _K h kv ke35 => dnX12_weightAt_s35 hX h0 h kv (fun τ35 μ2 h => ?_)) o_fuel ((-1), 1) μ1 (o_bdp h)
        · have h := o_if_t rfl (ke35 (78, τ35) μ2 (o_ne rfl) h)
          refine s_aload_n (i := 0) dX12_weightAt_78 rfl rfl ?_
          refine s_iload dX12_weightAt_79 rfl ?_
          refine s_callVi (C := mX12_orNone) (As := [.int τ35.1]) (rest := []) (L0 := [some (.ref (o_ad X a0)), some (.int τ35.1)]) hX h0 clX12_299 dX12_weightAt_81 rfl rfl (Nat.le_of_ble_eq_true rfl) (Nat.le_of_ble_eq_true rfl) (dnX12_orNone hX h0 (o_bdp h)) (fun r2 μ3 h => ?_)
          exact s_ireturn rfl dX12_weightAt_84 ⟨_, rfl, o_ret h⟩
      · have h := o_if_f c1 h
        refine s_mask [true, false, false, false, false, false, false, false] (L' := [some (.ref (o_ad X a0)), none, none, none, none, none, none, none]) rfl ?_
        exact dnX12_weightAt_j23 hX h0 h
