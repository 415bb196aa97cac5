theorem dX12_could_0 : decode cX12_could 0 = .ok (.aload_n 0, 1) := by decide +kernel
theorem dX12_could_1 : decode cX12_could 1 = .ok (.iload_n 1, 1) := by decide +kernel
theorem dX12_could_2 : decode cX12_could 2 = .ok (.iload_n 2, 1) := by decide +kernel
theorem dX12_could_3 : decode cX12_could 3 = .ok (.invokevirtual 274, 3) := by decide +kernel
theorem dX12_could_6 : decode cX12_could 6 = .ok (.ifCond .eq 11, 3) := by decide +kernel
theorem dX12_could_9 : decode cX12_could 9 = .ok (.aload_n 0, 1) := by decide +kernel
theorem dX12_could_10 : decode cX12_could 10 = .ok (.iload_n 3, 1) := by decide +kernel
theorem dX12_could_11 : decode cX12_could 11 = .ok (.invokevirtual 281, 3) := by decide +kernel
theorem dX12_could_14 : decode cX12_could 14 = .ok (.ifCond .ne 9, 3) := by decide +kernel
theorem dX12_could_17 : decode cX12_could 17 = .ok (.aload_n 0, 1) := by decide +kernel
theorem dX12_could_18 : decode cX12_could 18 = .ok (.iconst 1, 1) := by decide +kernel
theorem dX12_could_19 : decode cX12_could 19 = .ok (.invokevirtual 87, 3) := by decide +kernel
theorem dX12_could_22 : decode cX12_could 22 = .ok (.ireturn, 1) := by decide +kernel
theorem dX12_could_23 : decode cX12_could 23 = .ok (.iconst 0, 1) := by decide +kernel
theorem dX12_could_24 : decode cX12_could 24 = .ok (.istore 4, 2) := by decide +kernel
theorem dX12_could_26 : decode cX12_could 26 = .ok (.iconst 1, 1) := by decide +kernel
theorem dX12_could_27 : decode cX12_could 27 = .ok (.istore 5, 2) := by decide +kernel
theorem dX12_could_29 : decode cX12_could 29 = .ok (.iload 5, 2) := by decide +kernel
theorem dX12_could_31 : decode cX12_could 31 = .ok (.bipush 99, 2) := by decide +kernel
theorem dX12_could_33 : decode cX12_could 33 = .ok (.if_icmp .gt 39, 3) := by decide +kernel
theorem dX12_could_36 : decode cX12_could 36 = .ok (.aload_n 0, 1) := by decide +kernel
theorem dX12_could_37 : decode cX12_could 37 = .ok (.iload_n 1, 1) := by decide +kernel
theorem dX12_could_38 : decode cX12_could 38 = .ok (.iload_n 2, 1) := by decide +kernel
theorem dX12_could_39 : decode cX12_could 39 = .ok (.iload 5, 2) := by decide +kernel
theorem dX12_could_41 : decode cX12_could 41 = .ok (.iload_n 3, 1) := by decide +kernel
theorem dX12_could_42 : decode cX12_could 42 = .ok (.invokevirtual 325, 3) := by decide +kernel
theorem dX12_could_45 : decode cX12_could 45 = .ok (.istore 6, 2) := by decide +kernel
theorem dX12_could_47 : decode cX12_could 47 = .ok (.iload 4, 2) := by decide +kernel
theorem dX12_could_49 : decode cX12_could 49 = .ok (.iload 6, 2) := by decide +kernel
theorem dX12_could_51 : decode cX12_could 51 = .ok (.iconst (-1), 1) := by decide +kernel
theorem dX12_could_52 : decode cX12_could 52 = .ok (.if_icmp .ne 7, 3) := by decide +kernel
theorem dX12_could_55 : decode cX12_could 55 = .ok (.iconst 0, 1) := by decide +kernel
theorem dX12_could_56 : decode cX12_could 56 = .ok (.goto 7, 3) := by decide +kernel
theorem dX12_could_59 : decode cX12_could 59 = .ok (.iconst 1, 1) := by decide +kernel
theorem dX12_could_60 : decode cX12_could 60 = .ok (.iload 6, 2) := by decide +kernel
theorem dX12_could_62 : decode cX12_could 62 = .ok (.ishl, 1) := by decide +kernel
theorem dX12_could_63 : decode cX12_could 63 = .ok (.ior, 1) := by decide +kernel
theorem dX12_could_64 : decode cX12_could 64 = .ok (.istore 4, 2) := by decide +kernel
theorem dX12_could_66 : decode cX12_could 66 = .ok (.iinc 5 1, 3) := by decide +kernel
theorem dX12_could_69 : decode cX12_could 69 = .ok (.goto (-40), 3) := by decide +kernel
theorem dX12_could_72 : decode cX12_could 72 = .ok (.aload_n 0, 1) := by decide +kernel
theorem dX12_could_73 : decode cX12_could 73 = .ok (.iload 4, 2) := by decide +kernel
theorem dX12_could_75 : decode cX12_could 75 = .ok (.invokevirtual 91, 3) := by decide +kernel
theorem dX12_could_78 : decode cX12_could 78 = .ok (.ireturn, 1) := by decide +kernel
noncomputable def fX12_could_j17 (rf : Nat → Nat → Nat) (a0 : Nat) (μ0 : o_Mem) : Option (Int32 × o_Mem) :=
  o_bd (fX12_refuse rf a0 1 μ0) fun r1 μ1 =>
  some (r1, μ1)
noncomputable def fX12_could_j63 (rf : Nat → Nat → Nat) (a0 : Nat) (x1 : Int32) (x2 : Int32) (x3 : Int32) (x5 : Int32) (y0 : Int32) (y1 : Int32) (μ0 : o_Mem) : Option ((Nat × (Int32 × Int32)) × o_Mem) :=
  some ((29, ((y0 ||| y1), (x5 + 1))), μ0)
noncomputable def fX12_could_s29 (rf : Nat → Nat → Nat) (a0 : Nat) (x1 : Int32) (x2 : Int32) (x3 : Int32) (τ29 : Int32 × Int32) (μ0 : o_Mem) : Option ((Nat × (Int32 × Int32)) × o_Mem) :=
  if 99 < τ29.2 then (
    some ((72, (τ29.1, 0)), μ0))
  else (
    o_bd (fX12_sober rf a0 x1 x2 τ29.2 x3 μ0) fun r1 μ1 =>
    if r1 = (-1) then (
      fX12_could_j63 rf a0 x1 x2 x3 τ29.2 τ29.1 0 μ1)
    else (
      fX12_could_j63 rf a0 x1 x2 x3 τ29.2 τ29.1 (1 <<< (r1 &&& 31)) μ1))
noncomputable def fX12_could (rf : Nat → Nat → Nat) (a0 : Nat) (x1 : Int32) (x2 : Int32) (x3 : Int32) (μ0 : o_Mem) : Option (Int32 × o_Mem) :=
  o_bd (fX12_areTwo rf a0 x1 x2 μ0) fun r1 μ1 =>
  if r1 = 0 then (
    fX12_could_j17 rf a0 μ1)
  else (
    o_bd (fX12_isHand rf a0 x3 μ1) fun r2 μ2 =>
    if r2 = 0 then (
      fX12_could_j17 rf a0 μ2)
    else (
      o_bd (o_lp 29 (fX12_could_s29 rf a0 x1 x2 x3) o_fuel (0, 1) μ2) fun ex3 μ3 =>
      if ex3.1 = 72 then (
        o_bd (fX12_gives rf a0 ex3.2.1 μ3) fun r3 μ4 =>
        some (r3, μ4))
      else
        none))
set_option maxRecDepth 20000 in
theorem dnX12_could_j17 {X : o_Cx} (hX : o_ok X) {d : Nat} {a0 : Nat} {μ0 : o_Mem} {q : Int32 → o_Mem → Prop} (h0 : o_is X a0 (.inl 12)) (h : o_Post (fX12_could_j17 (o_rf X) a0 μ0) q) : o_Ev X (d + 4) mX12_could 17 [some (.ref (o_ad X a0)), none, none, none, none, none, none] [] μ0 (o_QI q) := by
  unfold fX12_could_j17 at h
  refine s_aload_n (i := 0) dX12_could_17 rfl rfl ?_
  refine s_iconst dX12_could_18 kI_1 ?_
  refine s_callVi (C := mX12_refuse) (As := [.int 1]) (rest := []) (L0 := [some (.ref (o_ad X a0)), some (.int 1)]) hX h0 clX12_87 dX12_could_19 rfl rfl (Nat.le_of_ble_eq_true rfl) (Nat.le_of_ble_eq_true rfl) (dnX12_refuse hX h0 (o_bdp h)) (fun r1 μ1 h => ?_)
  exact s_ireturn rfl dX12_could_22 ⟨_, rfl, o_ret h⟩
set_option maxRecDepth 20000 in
theorem dnX12_could_j63 {X : o_Cx} (hX : o_ok X) {d : Nat} {a0 : Nat} {x1 : Int32} {x2 : Int32} {x3 : Int32} {x5 : Int32} {y0 : Int32} {y1 : Int32} {μ0 : o_Mem} {K : (Nat × (Int32 × Int32)) → o_Mem → Prop} {Q : Option Value → o_Mem → Prop} (h0 : o_is X a0 (.inl 12)) (h : o_Post (fX12_could_j63 (o_rf X) a0 x1 x2 x3 x5 y0 y1 μ0) K) (kh : ∀ (τ29 : Int32 × Int32) (μ : o_Mem), K (29, τ29) μ → o_Ev X (d + 4) mX12_could 29 [some (.ref (o_ad X a0)), some (.int x1), some (.int x2), some (.int x3), some (.int τ29.1), some (.int τ29.2), none] [] μ Q) (k72 : ∀ (τ29 : Int32 × Int32) (μ : o_Mem), K (72, τ29) μ → o_Ev X (d + 4) mX12_could 72 [some (.ref (o_ad X a0)), none, none, none, some (.int τ29.1), none, none] [] μ Q) : o_Ev X (d + 4) mX12_could 63 [some (.ref (o_ad X a0)), some (.int x1), some (.int x2), some (.int x3), none, some (.int x5), none] [.int y1, .int y0] μ0 Q := by
  unfold fX12_could_j63 at h
  refine s_ior dX12_could_63 ?_
  refine s_istore dX12_could_64 (Nat.le_of_ble_eq_true rfl) rfl ?_
  refine s_iinc (v := (x5 + 1)) dX12_could_66 rfl rfl (Nat.le_of_ble_eq_true rfl) rfl ?_
  refine s_goto (tgt := 29) dX12_could_69 rfl ?_
  refine s_mask [true, true, true, true, true, true, false] (L' := [some (.ref (o_ad X a0)), some (.int x1), some (.int x2), some (.int x3), some (.int (y0 ||| y1)), some (.int (x5 + 1)), none]) rfl ?_
  exact kh ((y0 ||| y1), (x5 + 1)) _ (o_ret h)
set_option maxRecDepth 20000 in
theorem dnX12_could_s29 {X : o_Cx} (hX : o_ok X) {d : Nat} {a0 : Nat} {x1 : Int32} {x2 : Int32} {x3 : Int32} {τ29 : Int32 × Int32} {μ0 : o_Mem} {K : (Nat × (Int32 × Int32)) → o_Mem → Prop} {Q : Option Value → o_Mem → Prop} (h0 : o_is X a0 (.inl 12)) (h : o_Post (fX12_could_s29 (o_rf X) a0 x1 x2 x3 τ29 μ0) K) (kh : ∀ (τ29 : Int32 × Int32) (μ : o_Mem), K (29, τ29) μ → o_Ev X (d + 4) mX12_could 29 [some (.ref (o_ad X a0)), some (.int x1), some (.int x2), some (.int x3), some (.int τ29.1), some (.int τ29.2), none] [] μ Q) (k72 : ∀ (τ29 : Int32 × Int32) (μ : o_Mem), K (72, τ29) μ → o_Ev X (d + 4) mX12_could 72 [some (.ref (o_ad X a0)), none, none, none, some (.int τ29.1), none, none] [] μ Q) : o_Ev X (d + 4) mX12_could 29 [some (.ref (o_ad X a0)), some (.int x1), some (.int x2), some (.int x3), some (.int τ29.1), some (.int τ29.2), none] [] μ0 Q := by
  unfold fX12_could_s29 at h
  refine s_iload dX12_could_29 rfl ?_
  refine s_bipush dX12_could_31 kB_99 ?_
  refine s_icmp_gt (tgt := 72) dX12_could_33 rfl (fun c1 => ?_) (fun c1 => ?_)
  · have h := o_if_t c1 h
    refine s_mask [true, false, false, false, true, false, false] (L' := [some (.ref (o_ad X a0)), none, none, none, some (.int τ29.1), none, none]) rfl ?_
    exact k72 (τ29.1, 0) _ (o_ret h)
  · have h := o_if_f c1 h
    refine s_aload_n (i := 0) dX12_could_36 rfl rfl ?_
    refine s_iload_n (i := 1) dX12_could_37 rfl rfl ?_
    refine s_iload_n (i := 2) dX12_could_38 rfl rfl ?_
    refine s_iload dX12_could_39 rfl ?_
    refine s_iload_n (i := 3) dX12_could_41 rfl rfl ?_
    refine s_callVi (C := mX12_sober) (As := [.int x1, .int x2, .int τ29.2, .int x3]) (rest := []) (L0 := [some (.ref (o_ad X a0)), some (.int x1), some (.int x2), some (.int τ29.2), some (.int x3)]) hX h0 clX12_325 dX12_could_42 rfl rfl (Nat.le_of_ble_eq_true rfl) (Nat.le_of_ble_eq_true rfl) (dnX12_sober hX h0 (o_bdp h)) (fun r1 μ1 h => ?_)
    refine s_istore dX12_could_45 (Nat.le_of_ble_eq_true rfl) rfl ?_
    refine s_iload dX12_could_47 rfl ?_
    refine s_iload dX12_could_49 rfl ?_
    refine s_iconst dX12_could_51 kI_m1 ?_
    refine s_icmp_ne (tgt := 59) dX12_could_52 rfl (fun c1 => ?_) (fun c1 => ?_)
    · have h := o_if_f c1 h
      refine s_iconst dX12_could_59 kI_1 ?_
      refine s_iload dX12_could_60 rfl ?_
      refine s_ishl dX12_could_62 ?_
      refine s_mask [true, true, true, true, false, true, false] (L' := [some (.ref (o_ad X a0)), some (.int x1), some (.int x2), some (.int x3), none, some (.int τ29.2), none]) rfl ?_
      exact dnX12_could_j63 hX h0 h kh k72
    · have h := o_if_t c1 h
      refine s_iconst dX12_could_55 kI_0 ?_
      refine s_goto (tgt := 63) dX12_could_56 rfl ?_
      refine s_mask [true, true, true, true, false, true, false] (L' := [some (.ref (o_ad X a0)), some (.int x1), some (.int x2), some (.int x3), none, some (.int τ29.2), none]) rfl ?_
      exact dnX12_could_j63 hX h0 h kh k72
set_option maxRecDepth 20000 in
theorem dnX12_could {X : o_Cx} (hX : o_ok X) {d : Nat} {a0 : Nat} {x1 : Int32} {x2 : Int32} {x3 : Int32} {μ0 : o_Mem} {q : Int32 → o_Mem → Prop} (h0 : o_is X a0 (.inl 12)) (h : o_Post (fX12_could (o_rf X) a0 x1 x2 x3 μ0) q) : o_Ev X (d + 4) mX12_could 0 [some (.ref (o_ad X a0)), some (.int x1), some (.int x2), some (.int x3), none, none, none] [] μ0 (o_QI q) := by
  unfold fX12_could at h
  refine s_aload_n (i := 0) dX12_could_0 rfl rfl ?_
  refine s_iload_n (i := 1) dX12_could_1 rfl rfl ?_
  refine s_iload_n (i := 2) dX12_could_2 rfl rfl ?_
  refine s_callVz (C := mX12_areTwo) (As := [.int x1, .int x2]) (rest := []) (L0 := [some (.ref (o_ad X a0)), some (.int x1), some (.int x2)]) hX h0 clX12_274 dX12_could_3 rfl rfl (Nat.le_of_ble_eq_true rfl) (Nat.le_of_ble_eq_true rfl) (dnX12_areTwo hX h0 (o_bdp h)) (fun r1 μ1 zr1 h => ?_)
  refine s_if_eq (tgt := 17) dX12_could_6 rfl (fun c1 => ?_) (fun c1 => ?_)
  · have h := o_if_t c1 h
    refine s_mask [true, false, false, false, false, false, false] (L' := [some (.ref (o_ad X a0)), none, none, none, none, none, none]) rfl ?_
    exact dnX12_could_j17 hX h0 h
  · have h := o_if_f c1 h
    refine s_aload_n (i := 0) dX12_could_9 rfl rfl ?_
    refine s_iload_n (i := 3) dX12_could_10 rfl rfl ?_
    refine s_callVz (C := mX12_isHand) (As := [.int x3]) (rest := []) (L0 := [some (.ref (o_ad X a0)), some (.int x3)]) hX h0 clX12_281 dX12_could_11 rfl rfl (Nat.le_of_ble_eq_true rfl) (Nat.le_of_ble_eq_true rfl) (dnX12_isHand hX h0 (o_bdp h)) (fun r2 μ2 zr2 h => ?_)
    refine s_if_ne (tgt := 23) dX12_could_14 rfl (fun c1 => ?_) (fun c1 => ?_)
    · have h := o_if_f c1 h
      refine s_iconst dX12_could_23 kI_0 ?_
      refine s_istore dX12_could_24 (Nat.le_of_ble_eq_true rfl) rfl ?_
      refine s_iconst dX12_could_26 kI_1 ?_
      refine s_istore dX12_could_27 (Nat.le_of_ble_eq_true rfl) rfl ?_
      refine s_mask [true, true, true, true, true, true, false] (L' := [some (.ref (o_ad X a0)), some (.int x1), some (.int x2), some (.int x3), some (.int 0), some (.int 1), none]) rfl ?_
      refine o_lp_ev (fun τ29 => [some (.ref (o_ad X a0)), some (.int x1), some (.int x2), some (.int x3), some (.int τ29.1), some (.int τ29.2), none]) (fun τ29 μ _K h kv ke29 => dnX12_could_s29 hX h0 h kv (fun τ29 μ3 h => ?_)) o_fuel (0, 1) μ2 (o_bdp h)
      · have h := o_if_t rfl (ke29 (72, τ29) μ3 (o_ne rfl) h)
        refine s_aload_n (i := 0) dX12_could_72 rfl rfl ?_
        refine s_iload dX12_could_73 rfl ?_
        refine s_callVi (C := mX12_gives) (As := [.int τ29.1]) (rest := []) (L0 := [some (.ref (o_ad X a0)), some (.int τ29.1)]) hX h0 clX12_91 dX12_could_75 rfl rfl (Nat.le_of_ble_eq_true rfl) (Nat.le_of_ble_eq_true rfl) (dnX12_gives hX h0 (o_bdp h)) (fun r3 μ4 h => ?_)
        exact s_ireturn rfl dX12_could_78 ⟨_, rfl, o_ret h⟩
    · have h := o_if_t c1 h
      refine s_mask [true, false, false, false, false, false, false] (L' := [some (.ref (o_ad X a0)), none, none, none, none, none, none]) rfl ?_
      exact dnX12_could_j17 hX h0 h
theorem dX12_idle_0 : decode cX12_idle 0 = .ok (.iconst 1, 1) := by decide +kernel
theorem dX12_idle_1 : decode cX12_idle 1 = .ok (.aload_n 0, 1) := by decide +kernel
theorem dX12_idle_2 : decode cX12_idle 2 = .ok (.getfield 7, 3) := by decide +kernel
theorem dX12_idle_5 : decode cX12_idle 5 = .ok (.iconst 3, 1) := by decide +kernel
theorem dX12_idle_6 : decode cX12_idle 6 = .ok (.iaload, 1) := by decide +kernel
theorem dX12_idle_7 : decode cX12_idle 7 = .ok (.ishl, 1) := by decide +kernel
theorem dX12_idle_8 : decode cX12_idle 8 = .ok (.iconst 1, 1) := by decide +kernel
theorem dX12_idle_9 : decode cX12_idle 9 = .ok (.isub, 1) := by decide +kernel
theorem dX12_idle_10 : decode cX12_idle 10 = .ok (.istore_n 1, 1) := by decide +kernel
theorem dX12_idle_11 : decode cX12_idle 11 = .ok (.iconst 0, 1) := by decide +kernel
theorem dX12_idle_12 : decode cX12_idle 12 = .ok (.istore_n 2, 1) := by decide +kernel
theorem dX12_idle_13 : decode cX12_idle 13 = .ok (.iload_n 2, 1) := by decide +kernel
theorem dX12_idle_14 : decode cX12_idle 14 = .ok (.aload_n 0, 1) := by decide +kernel
theorem dX12_idle_15 : decode cX12_idle 15 = .ok (.getfield 7, 3) := by decide +kernel
theorem dX12_idle_18 : decode cX12_idle 18 = .ok (.iconst 2, 1) := by decide +kernel
theorem dX12_idle_19 : decode cX12_idle 19 = .ok (.iaload, 1) := by decide +kernel
theorem dX12_idle_20 : decode cX12_idle 20 = .ok (.if_icmp .ge 99, 3) := by decide +kernel
theorem dX12_idle_23 : decode cX12_idle 23 = .ok (.iconst 0, 1) := by decide +kernel
theorem dX12_idle_24 : decode cX12_idle 24 = .ok (.istore_n 3, 1) := by decide +kernel
theorem dX12_idle_25 : decode cX12_idle 25 = .ok (.iload_n 3, 1) := by decide +kernel
theorem dX12_idle_26 : decode cX12_idle 26 = .ok (.aload_n 0, 1) := by decide +kernel
theorem dX12_idle_27 : decode cX12_idle 27 = .ok (.getfield 7, 3) := by decide +kernel
theorem dX12_idle_30 : decode cX12_idle 30 = .ok (.iconst 2, 1) := by decide +kernel
theorem dX12_idle_31 : decode cX12_idle 31 = .ok (.iaload, 1) := by decide +kernel
theorem dX12_idle_32 : decode cX12_idle 32 = .ok (.if_icmp .ge 81, 3) := by decide +kernel
theorem dX12_idle_35 : decode cX12_idle 35 = .ok (.iconst 0, 1) := by decide +kernel
theorem dX12_idle_36 : decode cX12_idle 36 = .ok (.istore 4, 2) := by decide +kernel
theorem dX12_idle_38 : decode cX12_idle 38 = .ok (.iload 4, 2) := by decide +kernel
theorem dX12_idle_40 : decode cX12_idle 40 = .ok (.aload_n 0, 1) := by decide +kernel
theorem dX12_idle_41 : decode cX12_idle 41 = .ok (.getfield 7, 3) := by decide +kernel
theorem dX12_idle_44 : decode cX12_idle 44 = .ok (.iconst 1, 1) := by decide +kernel
theorem dX12_idle_45 : decode cX12_idle 45 = .ok (.iaload, 1) := by decide +kernel
theorem dX12_idle_46 : decode cX12_idle 46 = .ok (.if_icmp .ge 61, 3) := by decide +kernel
theorem dX12_idle_49 : decode cX12_idle 49 = .ok (.iload_n 2, 1) := by decide +kernel
theorem dX12_idle_50 : decode cX12_idle 50 = .ok (.iload_n 3, 1) := by decide +kernel
theorem dX12_idle_51 : decode cX12_idle 51 = .ok (.if_icmp .eq 56, 3) := by decide +kernel
theorem dX12_idle_54 : decode cX12_idle 54 = .ok (.iconst 1, 1) := by decide +kernel
theorem dX12_idle_55 : decode cX12_idle 55 = .ok (.istore 5, 2) := by decide +kernel
theorem dX12_idle_57 : decode cX12_idle 57 = .ok (.iload 5, 2) := by decide +kernel
theorem dX12_idle_59 : decode cX12_idle 59 = .ok (.bipush 99, 2) := by decide +kernel
theorem dX12_idle_61 : decode cX12_idle 61 = .ok (.if_icmp .gt 40, 3) := by decide +kernel
theorem dX12_idle_64 : decode cX12_idle 64 = .ok (.aload_n 0, 1) := by decide +kernel
theorem dX12_idle_65 : decode cX12_idle 65 = .ok (.iload_n 2, 1) := by decide +kernel
theorem dX12_idle_66 : decode cX12_idle 66 = .ok (.iload_n 3, 1) := by decide +kernel
theorem dX12_idle_67 : decode cX12_idle 67 = .ok (.iload 5, 2) := by decide +kernel
theorem dX12_idle_69 : decode cX12_idle 69 = .ok (.iload 4, 2) := by decide +kernel
theorem dX12_idle_71 : decode cX12_idle 71 = .ok (.invokevirtual 318, 3) := by decide +kernel
theorem dX12_idle_74 : decode cX12_idle 74 = .ok (.istore 6, 2) := by decide +kernel
theorem dX12_idle_76 : decode cX12_idle 76 = .ok (.iload_n 1, 1) := by decide +kernel
theorem dX12_idle_77 : decode cX12_idle 77 = .ok (.iload 6, 2) := by decide +kernel
theorem dX12_idle_79 : decode cX12_idle 79 = .ok (.iconst (-1), 1) := by decide +kernel
theorem dX12_idle_80 : decode cX12_idle 80 = .ok (.if_icmp .ne 7, 3) := by decide +kernel
theorem dX12_idle_83 : decode cX12_idle 83 = .ok (.iload_n 1, 1) := by decide +kernel
theorem dX12_idle_84 : decode cX12_idle 84 = .ok (.goto 9, 3) := by decide +kernel
theorem dX12_idle_87 : decode cX12_idle 87 = .ok (.iconst 1, 1) := by decide +kernel
theorem dX12_idle_88 : decode cX12_idle 88 = .ok (.iload 6, 2) := by decide +kernel
theorem dX12_idle_90 : decode cX12_idle 90 = .ok (.ishl, 1) := by decide +kernel
theorem dX12_idle_91 : decode cX12_idle 91 = .ok (.iconst (-1), 1) := by decide +kernel
theorem dX12_idle_92 : decode cX12_idle 92 = .ok (.ixor, 1) := by decide +kernel
theorem dX12_idle_93 : decode cX12_idle 93 = .ok (.iand, 1) := by decide +kernel
theorem dX12_idle_94 : decode cX12_idle 94 = .ok (.istore_n 1, 1) := by decide +kernel
theorem dX12_idle_95 : decode cX12_idle 95 = .ok (.iinc 5 1, 3) := by decide +kernel
theorem dX12_idle_98 : decode cX12_idle 98 = .ok (.goto (-41), 3) := by decide +kernel
theorem dX12_idle_101 : decode cX12_idle 101 = .ok (.iinc 4 1, 3) := by decide +kernel
theorem dX12_idle_104 : decode cX12_idle 104 = .ok (.goto (-66), 3) := by decide +kernel
theorem dX12_idle_107 : decode cX12_idle 107 = .ok (.iinc 3 1, 3) := by decide +kernel
theorem dX12_idle_110 : decode cX12_idle 110 = .ok (.goto (-85), 3) := by decide +kernel
theorem dX12_idle_113 : decode cX12_idle 113 = .ok (.iinc 2 1, 3) := by decide +kernel
theorem dX12_idle_116 : decode cX12_idle 116 = .ok (.goto (-103), 3) := by decide +kernel
theorem dX12_idle_119 : decode cX12_idle 119 = .ok (.aload_n 0, 1) := by decide +kernel
theorem dX12_idle_120 : decode cX12_idle 120 = .ok (.iload_n 1, 1) := by decide +kernel
theorem dX12_idle_121 : decode cX12_idle 121 = .ok (.invokevirtual 91, 3) := by decide +kernel
theorem dX12_idle_124 : decode cX12_idle 124 = .ok (.ireturn, 1) := by decide +kernel
noncomputable def fX12_idle_j93 (rf : Nat → Nat → Nat) (a0 : Nat) (x2 : Int32) (x3 : Int32) (x4 : Int32) (x5 : Int32) (y0 : Int32) (y1 : Int32) (μ0 : o_Mem) : Option ((Nat × (Int32 × Int32)) × o_Mem) :=
  some ((57, ((y0 &&& y1), (x5 + 1))), μ0)
noncomputable def fX12_idle_s57 (rf : Nat → Nat → Nat) (a0 : Nat) (x2 : Int32) (x3 : Int32) (x4 : Int32) (τ57 : Int32 × Int32) (μ0 : o_Mem) : Option ((Nat × (Int32 × Int32)) × o_Mem) :=
  if 99 < τ57.2 then (
    some ((101, (τ57.1, 0)), μ0))
  else (
    o_bd (fX12_firstLaw rf a0 x2 x3 τ57.2 x4 μ0) fun r1 μ1 =>
    if r1 = (-1) then (
      fX12_idle_j93 rf a0 x2 x3 x4 τ57.2 τ57.1 τ57.1 μ1)
    else (
      fX12_idle_j93 rf a0 x2 x3 x4 τ57.2 τ57.1 ((1 <<< (r1 &&& 31)) ^^^ (-1)) μ1))
noncomputable def fX12_idle_s38 (rf : Nat → Nat → Nat) (a0 : Nat) (x2 : Int32) (x3 : Int32) (τ38 : Int32 × Int32) (μ0 : o_Mem) : Option ((Nat × (Int32 × Int32)) × o_Mem) :=
  if (μ0.1 (rf a0 0) 1) ≤ τ38.2 then (
    some ((107, (τ38.1, 0)), μ0))
  else (
    if x2 = x3 then (
      some ((107, (τ38.1, 0)), μ0))
    else (
      o_bd (o_lp 57 (fX12_idle_s57 rf a0 x2 x3 τ38.2) o_fuel (τ38.1, 1) μ0) fun ex1 μ1 =>
      if ex1.1 = 101 then (
        some ((38, (ex1.2.1, (τ38.2 + 1))), μ1))
      else
        none))
noncomputable def fX12_idle_s25 (rf : Nat → Nat → Nat) (a0 : Nat) (x2 : Int32) (τ25 : Int32 × Int32) (μ0 : o_Mem) : Option ((Nat × (Int32 × Int32)) × o_Mem) :=
  if (μ0.1 (rf a0 0) 2) ≤ τ25.2 then (
    some ((113, (τ25.1, 0)), μ0))
  else (
    o_bd (o_lp 38 (fX12_idle_s38 rf a0 x2 τ25.2) o_fuel (τ25.1, 0) μ0) fun ex1 μ1 =>
    if ex1.1 = 107 then (
      some ((25, (ex1.2.1, (τ25.2 + 1))), μ1))
    else
      none)
noncomputable def fX12_idle_s13 (rf : Nat → Nat → Nat) (a0 : Nat) (τ13 : Int32 × Int32) (μ0 : o_Mem) : Option ((Nat × (Int32 × Int32)) × o_Mem) :=
  if (μ0.1 (rf a0 0) 2) ≤ τ13.2 then (
    some ((119, (τ13.1, 0)), μ0))
  else (
    o_bd (o_lp 25 (fX12_idle_s25 rf a0 τ13.2) o_fuel (τ13.1, 0) μ0) fun ex1 μ1 =>
    if ex1.1 = 113 then (
      some ((13, (ex1.2.1, (τ13.2 + 1))), μ1))
    else
      none)
noncomputable def fX12_idle (rf : Nat → Nat → Nat) (a0 : Nat) (μ0 : o_Mem) : Option (Int32 × o_Mem) :=
  o_bd (o_lp 13 (fX12_idle_s13 rf a0) o_fuel (((1 <<< ((μ0.1 (rf a0 0) 3) &&& 31)) - 1), 0) μ0) fun ex1 μ1 =>
  if ex1.1 = 119 then (
    o_bd (fX12_gives rf a0 ex1.2.1 μ1) fun r1 μ2 =>
    some (r1, μ2))
  else
    none
set_option maxRecDepth 20000 in
theorem dnX12_idle_j93 {X : o_Cx} (hX : o_ok X) {d : Nat} {a0 : Nat} {x2 : Int32} {x3 : Int32} {x4 : Int32} {x5 : Int32} {y0 : Int32} {y1 : Int32} {μ0 : o_Mem} {K : (Nat × (Int32 × Int32)) → o_Mem → Prop} {Q : Option Value → o_Mem → Prop} (h0 : o_is X a0 (.inl 12)) (h : o_Post (fX12_idle_j93 (o_rf X) a0 x2 x3 x4 x5 y0 y1 μ0) K) (kh : ∀ (τ57 : Int32 × Int32) (μ : o_Mem), K (57, τ57) μ → o_Ev X (d + 3) mX12_idle 57 [some (.ref (o_ad X a0)), some (.int τ57.1), some (.int x2), some (.int x3), some (.int x4), some (.int τ57.2), none] [] μ Q) (k101 : ∀ (τ57 : Int32 × Int32) (μ : o_Mem), K (101, τ57) μ → o_Ev X (d + 3) mX12_idle 101 [some (.ref (o_ad X a0)), some (.int τ57.1), some (.int x2), some (.int x3), some (.int x4), none, none] [] μ Q) : o_Ev X (d + 3) mX12_idle 93 [some (.ref (o_ad X a0)), none, some (.int x2), some (.int x3), some (.int x4), some (.int x5), none] [.int y1, .int y0] μ0 Q := by
  unfold fX12_idle_j93 at h
  refine s_iand dX12_idle_93 ?_
  refine s_istore_n (i := 1) dX12_idle_94 rfl (Nat.le_of_ble_eq_true rfl) rfl ?_
  refine s_iinc (v := (x5 + 1)) dX12_idle_95 rfl rfl (Nat.le_of_ble_eq_true rfl) rfl ?_
  refine s_goto (tgt := 57) dX12_idle_98 rfl ?_
  refine s_mask [true, true, true, true, true, true, false] (L' := [some (.ref (o_ad X a0)), some (.int (y0 &&& y1)), some (.int x2), some (.int x3), some (.int x4), some (.int (x5 + 1)), none]) rfl ?_
  exact kh ((y0 &&& y1), (x5 + 1)) _ (o_ret h)
set_option maxRecDepth 20000 in
theorem dnX12_idle_s57 {X : o_Cx} (hX : o_ok X) {d : Nat} {a0 : Nat} {x2 : Int32} {x3 : Int32} {x4 : Int32} {τ57 : Int32 × Int32} {μ0 : o_Mem} {K : (Nat × (Int32 × Int32)) → o_Mem → Prop} {Q : Option Value → o_Mem → Prop} (h0 : o_is X a0 (.inl 12)) (h : o_Post (fX12_idle_s57 (o_rf X) a0 x2 x3 x4 τ57 μ0) K) (kh : ∀ (τ57 : Int32 × Int32) (μ : o_Mem), K (57, τ57) μ → o_Ev X (d + 3) mX12_idle 57 [some (.ref (o_ad X a0)), some (.int τ57.1), some (.int x2), some (.int x3), some (.int x4), some (.int τ57.2), none] [] μ Q) (k101 : ∀ (τ57 : Int32 × Int32) (μ : o_Mem), K (101, τ57) μ → o_Ev X (d + 3) mX12_idle 101 [some (.ref (o_ad X a0)), some (.int τ57.1), some (.int x2), some (.int x3), some (.int x4), none, none] [] μ Q) : o_Ev X (d + 3) mX12_idle 57 [some (.ref (o_ad X a0)), some (.int τ57.1), some (.int x2), some (.int x3), some (.int x4), some (.int τ57.2), none] [] μ0 Q := by
  unfold fX12_idle_s57 at h
  refine s_iload dX12_idle_57 rfl ?_
  refine s_bipush dX12_idle_59 kB_99 ?_
  refine s_icmp_gt (tgt := 101) dX12_idle_61 rfl (fun c1 => ?_) (fun c1 => ?_)
  · have h := o_if_t c1 h
    refine s_mask [true, true, true, true, true, false, false] (L' := [some (.ref (o_ad X a0)), some (.int τ57.1), some (.int x2), some (.int x3), some (.int x4), none, none]) rfl ?_
    exact k101 (τ57.1, 0) _ (o_ret h)
  · have h := o_if_f c1 h
    refine s_aload_n (i := 0) dX12_idle_64 rfl rfl ?_
    refine s_iload_n (i := 2) dX12_idle_65 rfl rfl ?_
    refine s_iload_n (i := 3) dX12_idle_66 rfl rfl ?_
    refine s_iload dX12_idle_67 rfl ?_
    refine s_iload dX12_idle_69 rfl ?_
    refine s_callVi (C := mX12_firstLaw) (As := [.int x2, .int x3, .int τ57.2, .int x4]) (rest := []) (L0 := [some (.ref (o_ad X a0)), some (.int x2), some (.int x3), some (.int τ57.2), some (.int x4), none]) hX h0 clX12_318 dX12_idle_71 rfl rfl (Nat.le_of_ble_eq_true rfl) (Nat.le_of_ble_eq_true rfl) (dnX12_firstLaw hX h0 (o_bdp h)) (fun r1 μ1 h => ?_)
    refine s_istore dX12_idle_74 (Nat.le_of_ble_eq_true rfl) rfl ?_
    refine s_iload_n (i := 1) dX12_idle_76 rfl rfl ?_
    refine s_iload dX12_idle_77 rfl ?_
    refine s_iconst dX12_idle_79 kI_m1 ?_
    refine s_icmp_ne (tgt := 87) dX12_idle_80 rfl (fun c1 => ?_) (fun c1 => ?_)
    · have h := o_if_f c1 h
      refine s_iconst dX12_idle_87 kI_1 ?_
      refine s_iload dX12_idle_88 rfl ?_
      refine s_ishl dX12_idle_90 ?_
      refine s_iconst dX12_idle_91 kI_m1 ?_
      refine s_ixor dX12_idle_92 ?_
      refine s_mask [true, false, true, true, true, true, false] (L' := [some (.ref (o_ad X a0)), none, some (.int x2), some (.int x3), some (.int x4), some (.int τ57.2), none]) rfl ?_
      exact dnX12_idle_j93 hX h0 h kh k101
    · have h := o_if_t c1 h
      refine s_iload_n (i := 1) dX12_idle_83 rfl rfl ?_
      refine s_goto (tgt := 93) dX12_idle_84 rfl ?_
      refine s_mask [true, false, true, true, true, true, false] (L' := [some (.ref (o_ad X a0)), none, some (.int x2), some (.int x3), some (.int x4), some (.int τ57.2), none]) rfl ?_
      exact dnX12_idle_j93 hX h0 h kh k101
set_option maxRecDepth 20000 in
theorem dnX12_idle_s38 {X : o_Cx} (hX : o_ok X) {d : Nat} {a0 : Nat} {x2 : Int32} {x3 : Int32} {τ38 : Int32 × Int32} {μ0 : o_Mem} {K : (Nat × (Int32 × Int32)) → o_Mem → Prop} {Q : Option Value → o_Mem → Prop} (h0 : o_is X a0 (.inl 12)) (h : o_Post (fX12_idle_s38 (o_rf X) a0 x2 x3 τ38 μ0) K) (kh : ∀ (τ38 : Int32 × Int32) (μ : o_Mem), K (38, τ38) μ → o_Ev X (d + 3) mX12_idle 38 [some (.ref (o_ad X a0)), some (.int τ38.1), some (.int x2), some (.int x3), some (.int τ38.2), none, none] [] μ Q) (k107 : ∀ (τ38 : Int32 × Int32) (μ : o_Mem), K (107, τ38) μ → o_Ev X (d + 3) mX12_idle 107 [some (.ref (o_ad X a0)), some (.int τ38.1), some (.int x2), some (.int x3), none, none, none] [] μ Q) : o_Ev X (d + 3) mX12_idle 38 [some (.ref (o_ad X a0)), some (.int τ38.1), some (.int x2), some (.int x3), some (.int τ38.2), none, none] [] μ0 Q := by
  unfold fX12_idle_s38 at h
  refine s_iload dX12_idle_38 rfl ?_
  refine s_aload_n (i := 0) dX12_idle_40 rfl rfl ?_
  refine s_getR hX h0 flX12_7 rfl dX12_idle_41 (fun (g1 : o_is X (o_rf X a0 0) (.inr (0, 3756))) => ?_)
  refine s_iconst dX12_idle_44 kI_1 ?_
  refine s_ialdK g1 ⟨by decide, by decide⟩ kN_1 dX12_idle_45 ?_
  refine s_icmp_ge (tgt := 107) dX12_idle_46 rfl (fun c1 => ?_) (fun c1 => ?_)
  · have h := o_if_t c1 h
    refine s_mask [true, true, true, true, false, false, false] (L' := [some (.ref (o_ad X a0)), some (.int τ38.1), some (.int x2), some (.int x3), none, none, none]) rfl ?_
    exact k107 (τ38.1, 0) _ (o_ret h)
  · have h := o_if_f c1 h
    refine s_iload_n (i := 2) dX12_idle_49 rfl rfl ?_
    refine s_iload_n (i := 3) dX12_idle_50 rfl rfl ?_
    refine s_icmp_eq (tgt := 107) dX12_idle_51 rfl (fun c1 => ?_) (fun c1 => ?_)
    · have h := o_if_t c1 h
      refine s_mask [true, true, true, true, false, false, false] (L' := [some (.ref (o_ad X a0)), some (.int τ38.1), some (.int x2), some (.int x3), none, none, none]) rfl ?_
      exact k107 (τ38.1, 0) _ (o_ret h)
    · have h := o_if_f c1 h
      refine s_iconst dX12_idle_54 kI_1 ?_
      refine s_istore dX12_idle_55 (Nat.le_of_ble_eq_true rfl) rfl ?_
      refine s_mask [true, true, true, true, true, true, false] (L' := [some (.ref (o_ad X a0)), some (.int τ38.1), some (.int x2), some (.int x3), some (.int τ38.2), some (.int 1), none]) rfl ?_
      refine o_lp_ev (fun τ57 => [some (.ref (o_ad X a0)), some (.int τ57.1), some (.int x2), some (.int x3), some (.int τ38.2), some (.int τ57.2), none]) (fun τ57 μ _K h kv ke57 => dnX12_idle_s57 hX h0 h kv (fun τ57 μ1 h => ?_)) o_fuel (τ38.1, 1) μ0 (o_bdp h)
      · have h := o_if_t rfl (ke57 (101, τ57) μ1 (o_ne rfl) h)
        refine s_iinc (v := (τ38.2 + 1)) dX12_idle_101 rfl rfl (Nat.le_of_ble_eq_true rfl) rfl ?_
        refine s_goto (tgt := 38) dX12_idle_104 rfl ?_
        refine s_mask [true, true, true, true, true, false, false] (L' := [some (.ref (o_ad X a0)), some (.int τ57.1), some (.int x2), some (.int x3), some (.int (τ38.2 + 1)), none, none]) rfl ?_
        exact kh (τ57.1, (τ38.2 + 1)) _ (o_ret h)
set_option maxRecDepth 20000 in
theorem dnX12_idle_s25 {X : o_Cx} (hX : o_ok X) {d : Nat} {a0 : Nat} {x2 : Int32} {τ25 : Int32 × Int32} {μ0 : o_Mem} {K : (Nat × (Int32 × Int32)) → o_Mem → Prop} {Q : Option Value → o_Mem → Prop} (h0 : o_is X a0 (.inl 12)) (h : o_Post (fX12_idle_s25 (o_rf X) a0 x2 τ25 μ0) K) (kh : ∀ (τ25 : Int32 × Int32) (μ : o_Mem), K (25, τ25) μ → o_Ev X (d + 3) mX12_idle 25 [some (.ref (o_ad X a0)), some (.int τ25.1), some (.int x2), some (.int τ25.2), none, none, none] [] μ Q) (k113 : ∀ (τ25 : Int32 × Int32) (μ : o_Mem), K (113, τ25) μ → o_Ev X (d + 3) mX12_idle 113 [some (.ref (o_ad X a0)), some (.int τ25.1), some (.int x2), none, none, none, none] [] μ Q) : o_Ev X (d + 3) mX12_idle 25 [some (.ref (o_ad X a0)), some (.int τ25.1), some (.int x2), some (.int τ25.2), none, none, none] [] μ0 Q := by
  unfold fX12_idle_s25 at h
  refine s_iload_n (i := 3) dX12_idle_25 rfl rfl ?_
  refine s_aload_n (i := 0) dX12_idle_26 rfl rfl ?_
  refine s_getR hX h0 flX12_7 rfl dX12_idle_27 (fun (g1 : o_is X (o_rf X a0 0) (.inr (0, 3756))) => ?_)
  refine s_iconst dX12_idle_30 kI_2 ?_
  refine s_ialdK g1 ⟨by decide, by decide⟩ kN_2 dX12_idle_31 ?_
  refine s_icmp_ge (tgt := 113) dX12_idle_32 rfl (fun c1 => ?_) (fun c1 => ?_)
  · have h := o_if_t c1 h
    refine s_mask [true, true, true, false, false, false, false] (L' := [some (.ref (o_ad X a0)), some (.int τ25.1), some (.int x2), none, none, none, none]) rfl ?_
    exact k113 (τ25.1, 0) _ (o_ret h)
  · have h := o_if_f c1 h
    refine s_iconst dX12_idle_35 kI_0 ?_
    refine s_istore dX12_idle_36 (Nat.le_of_ble_eq_true rfl) rfl ?_
    refine s_mask [true, true, true, true, true, false, false] (L' := [some (.ref (o_ad X a0)), some (.int τ25.1), some (.int x2), some (.int τ25.2), some (.int 0), none, none]) rfl ?_
    refine o_lp_ev (fun τ38 => [some (.ref (o_ad X a0)), some (.int τ38.1), some (.int x2), some (.int τ25.2), some (.int τ38.2), none, none]) (fun τ38 μ _K h kv ke38 => dnX12_idle_s38 hX h0 h kv (fun τ38 μ1 h => ?_)) o_fuel (τ25.1, 0) μ0 (o_bdp h)
    · have h := o_if_t rfl (ke38 (107, τ38) μ1 (o_ne rfl) h)
      refine s_iinc (v := (τ25.2 + 1)) dX12_idle_107 rfl rfl (Nat.le_of_ble_eq_true rfl) rfl ?_
      refine s_goto (tgt := 25) dX12_idle_110 rfl ?_
      refine s_mask [true, true, true, true, false, false, false] (L' := [some (.ref (o_ad X a0)), some (.int τ38.1), some (.int x2), some (.int (τ25.2 + 1)), none, none, none]) rfl ?_
      exact kh (τ38.1, (τ25.2 + 1)) _ (o_ret h)
set_option maxRecDepth 20000 in
theorem dnX12_idle_s13 {X : o_Cx} (hX : o_ok X) {d : Nat} {a0 : Nat} {τ13 : Int32 × Int32} {μ0 : o_Mem} {K : (Nat × (Int32 × Int32)) → o_Mem → Prop} {Q : Option Value → o_Mem → Prop} (h0 : o_is X a0 (.inl 12)) (h : o_Post (fX12_idle_s13 (o_rf X) a0 τ13 μ0) K) (kh : ∀ (τ13 : Int32 × Int32) (μ : o_Mem), K (13, τ13) μ → o_Ev X (d + 3) mX12_idle 13 [some (.ref (o_ad X a0)), some (.int τ13.1), some (.int τ13.2), none, none, none, none] [] μ Q) (k119 : ∀ (τ13 : Int32 × Int32) (μ : o_Mem), K (119, τ13) μ → o_Ev X (d + 3) mX12_idle 119 [some (.ref (o_ad X a0)), some (.int τ13.1), none, none, none, none, none] [] μ Q) : o_Ev X (d + 3) mX12_idle 13 [some (.ref (o_ad X a0)), some (.int τ13.1), some (.int τ13.2), none, none, none, none] [] μ0 Q := by
  unfold fX12_idle_s13 at h
  refine s_iload_n (i := 2) dX12_idle_13 rfl rfl ?_
  refine s_aload_n (i := 0) dX12_idle_14 rfl rfl ?_
  refine s_getR hX h0 flX12_7 rfl dX12_idle_15 (fun (g1 : o_is X (o_rf X a0 0) (.inr (0, 3756))) => ?_)
  refine s_iconst dX12_idle_18 kI_2 ?_
  refine s_ialdK g1 ⟨by decide, by decide⟩ kN_2 dX12_idle_19 ?_
  refine s_icmp_ge (tgt := 119) dX12_idle_20 rfl (fun c1 => ?_) (fun c1 => ?_)
  · have h := o_if_t c1 h
    refine s_mask [true, true, false, false, false, false, false] (L' := [some (.ref (o_ad X a0)), some (.int τ13.1), none, none, none, none, none]) rfl ?_
    exact k119 (τ13.1, 0) _ (o_ret h)
  · have h := o_if_f c1 h
    refine s_iconst dX12_idle_23 kI_0 ?_
    refine s_istore_n (i := 3) dX12_idle_24 rfl (Nat.le_of_ble_eq_true rfl) rfl ?_
    refine s_mask [true, true, true, true, false, false, false] (L' := [some (.ref (o_ad X a0)), some (.int τ13.1), some (.int τ13.2), some (.int 0), none, none, none]) rfl ?_
    refine o_lp_ev (fun τ25 => [some (.ref (o_ad X a0)), some (.int τ25.1), some (.int τ13.2), some (.int τ25.2), none, none, none]) (fun τ25 μ _K h kv ke25 => dnX12_idle_s25 hX h0 h kv (fun τ25 μ1 h => ?_)) o_fuel (τ13.1, 0) μ0 (o_bdp h)
    · have h := o_if_t rfl (ke25 (113, τ25) μ1 (o_ne rfl) h)
      refine s_iinc (v := (τ13.2 + 1)) dX12_idle_113 rfl rfl (Nat.le_of_ble_eq_true rfl) rfl ?_
      refine s_goto (tgt := 13) dX12_idle_116 rfl ?_
      refine s_mask [true, true, true, false, false, false, false] (L' := [some (.ref (o_ad X a0)), some (.int τ25.1), some (.int (τ13.2 + 1)), none, none, none, none]) rfl ?_
      exact kh (τ25.1, (τ13.2 + 1)) _ (o_ret h)
set_option maxRecDepth 20000 in
theorem dnX12_idle {X : o_Cx} (hX : o_ok X) {d : Nat} {a0 : Nat} {μ0 : o_Mem} {q : Int32 → o_Mem → Prop} (h0 : o_is X a0 (.inl 12)) (h : o_Post (fX12_idle (o_rf X) a0 μ0) q) : o_Ev X (d + 3) mX12_idle 0 [some (.ref (o_ad X a0)), none, none, none, none, none, none] [] μ0 (o_QI q) := by
  unfold fX12_idle at h
  refine s_iconst dX12_idle_0 kI_1 ?_
  refine s_aload_n (i := 0) dX12_idle_1 rfl rfl ?_
  refine s_getR hX h0 flX12_7 rfl dX12_idle_2 (fun (g1 : o_is X (o_rf X a0 0) (.inr (0, 3756))) => ?_)
  refine s_iconst dX12_idle_5 kI_3 ?_
  refine s_ialdK g1 ⟨by decide, by decide⟩ kN_3 dX12_idle_6 ?_
  refine s_ishl dX12_idle_7 ?_
  refine s_iconst dX12_idle_8 kI_1 ?_
  refine s_isub dX12_idle_9 ?_
  refine s_istore_n (i := 1) dX12_idle_10 rfl (Nat.le_of_ble_eq_true rfl) rfl ?_
  refine s_iconst dX12_idle_11 kI_0 ?_
  refine s_istore_n (i := 2) dX12_idle_12 rfl (Nat.le_of_ble_eq_true rfl) rfl ?_
  refine s_mask [true, true, true, false, false, false, false] (L' := [some (.ref (o_ad X a0)), some (.int ((1 <<< ((μ0.1 (o_rf X a0 0) 3) &&& 31)) - 1)), some (.int 0), none, none, none, none]) rfl ?_
  refine o_lp_ev (fun τ13 => [some (.ref (o_ad X a0)), some (.int τ13.1), some (.int τ13.2), none, none, none, none]) (fun τ13 μ _K h kv ke13 => dnX12_idle_s13 hX h0 h kv (fun τ13 μ1 h => ?_)) o_fuel (((1 <<< ((μ0.1 (o_rf X a0 0) 3) &&& 31)) - 1), 0) μ0 (o_bdp h)
  · have h := o_if_t rfl (ke13 (119, τ13) μ1 (o_ne rfl) h)
    refine s_aload_n (i := 0) dX12_idle_119 rfl rfl ?_
    refine s_iload_n (i := 1) dX12_idle_120 rfl rfl ?_
    refine s_callVi (C := mX12_gives) (As := [.int τ13.1]) (rest := []) (L0 := [some (.ref (o_ad X a0)), some (.int τ13.1)]) hX h0 clX12_91 dX12_idle_121 rfl rfl (Nat.le_of_ble_eq_true rfl) (Nat.le_of_ble_eq_true rfl) (dnX12_gives hX h0 (o_bdp h)) (fun r1 μ2 h => ?_)
    exact s_ireturn rfl dX12_idle_124 ⟨_, rfl, o_ret h⟩
theorem dX12_isStruck_0 : decode cX12_isStruck 0 = .ok (.iload_n 1, 1) := by decide +kernel
theorem dX12_isStruck_1 : decode cX12_isStruck 1 = .ok (.iload_n 2, 1) := by decide +kernel
theorem dX12_isStruck_2 : decode cX12_isStruck 2 = .ok (.if_icmp .eq 23, 3) := by decide +kernel
theorem dX12_isStruck_5 : decode cX12_isStruck 5 = .ok (.aload_n 0, 1) := by decide +kernel
theorem dX12_isStruck_6 : decode cX12_isStruck 6 = .ok (.iload_n 1, 1) := by decide +kernel
theorem dX12_isStruck_7 : decode cX12_isStruck 7 = .ok (.iload_n 2, 1) := by decide +kernel
theorem dX12_isStruck_8 : decode cX12_isStruck 8 = .ok (.iload_n 3, 1) := by decide +kernel
theorem dX12_isStruck_9 : decode cX12_isStruck 9 = .ok (.aload_n 0, 1) := by decide +kernel
theorem dX12_isStruck_10 : decode cX12_isStruck 10 = .ok (.iload_n 1, 1) := by decide +kernel
theorem dX12_isStruck_11 : decode cX12_isStruck 11 = .ok (.invokevirtual 290, 3) := by decide +kernel
theorem dX12_isStruck_14 : decode cX12_isStruck 14 = .ok (.invokevirtual 325, 3) := by decide +kernel
theorem dX12_isStruck_17 : decode cX12_isStruck 17 = .ok (.iconst (-1), 1) := by decide +kernel
theorem dX12_isStruck_18 : decode cX12_isStruck 18 = .ok (.if_icmp .eq 7, 3) := by decide +kernel
theorem dX12_isStruck_21 : decode cX12_isStruck 21 = .ok (.iconst 1, 1) := by decide +kernel
theorem dX12_isStruck_22 : decode cX12_isStruck 22 = .ok (.goto 4, 3) := by decide +kernel
theorem dX12_isStruck_25 : decode cX12_isStruck 25 = .ok (.iconst 0, 1) := by decide +kernel
theorem dX12_isStruck_26 : decode cX12_isStruck 26 = .ok (.ireturn, 1) := by decide +kernel
noncomputable def fX12_isStruck (rf : Nat → Nat → Nat) (a0 : Nat) (x1 : Int32) (x2 : Int32) (x3 : Int32) (μ0 : o_Mem) : Option (Int32 × o_Mem) :=
  if x1 = x2 then (
    some (0, μ0))
  else (
    o_bd (fX12_handOf rf a0 x1 μ0) fun r1 μ1 =>
    o_bd (fX12_sober rf a0 x1 x2 x3 r1 μ1) fun r2 μ2 =>
    if r2 = (-1) then (
      some (0, μ2))
    else (
      some (1, μ2)))
set_option maxRecDepth 20000 in
theorem dnX12_isStruck {X : o_Cx} (hX : o_ok X) {d : Nat} {a0 : Nat} {x1 : Int32} {x2 : Int32} {x3 : Int32} {μ0 : o_Mem} {q : Int32 → o_Mem → Prop} (h0 : o_is X a0 (.inl 12)) (h : o_Post (fX12_isStruck (o_rf X) a0 x1 x2 x3 μ0) q) : o_Ev X (d + 4) mX12_isStruck 0 [some (.ref (o_ad X a0)), some (.int x1), some (.int x2), some (.int x3)] [] μ0 (o_QZ q) := by
  unfold fX12_isStruck at h
  refine s_iload_n (i := 1) dX12_isStruck_0 rfl rfl ?_
  refine s_iload_n (i := 2) dX12_isStruck_1 rfl rfl ?_
  refine s_icmp_eq (tgt := 25) dX12_isStruck_2 rfl (fun c1 => ?_) (fun c1 => ?_)
  · have h := o_if_t c1 h
    refine s_iconst dX12_isStruck_25 kI_0 ?_
    exact s_zreturn rfl (Or.inl rfl) dX12_isStruck_26 ⟨_, rfl, (Or.inl rfl), o_ret h⟩
  · have h := o_if_f c1 h
    refine s_aload_n (i := 0) dX12_isStruck_5 rfl rfl ?_
    refine s_iload_n (i := 1) dX12_isStruck_6 rfl rfl ?_
    refine s_iload_n (i := 2) dX12_isStruck_7 rfl rfl ?_
    refine s_iload_n (i := 3) dX12_isStruck_8 rfl rfl ?_
    refine s_aload_n (i := 0) dX12_isStruck_9 rfl rfl ?_
    refine s_iload_n (i := 1) dX12_isStruck_10 rfl rfl ?_
    refine s_callVi (C := mX12_handOf) (As := [.int x1]) (rest := [.int x3, .int x2, .int x1, .ref (o_ad X a0)]) (L0 := [some (.ref (o_ad X a0)), some (.int x1)]) hX h0 clX12_290 dX12_isStruck_11 rfl rfl (Nat.le_of_ble_eq_true rfl) (Nat.le_of_ble_eq_true rfl) (dnX12_handOf hX h0 (o_bdp h)) (fun r1 μ1 h => ?_)
    refine s_callVi (C := mX12_sober) (As := [.int x1, .int x2, .int x3, .int r1]) (rest := []) (L0 := [some (.ref (o_ad X a0)), some (.int x1), some (.int x2), some (.int x3), some (.int r1)]) hX h0 clX12_325 dX12_isStruck_14 rfl rfl (Nat.le_of_ble_eq_true rfl) (Nat.le_of_ble_eq_true rfl) (dnX12_sober hX h0 (o_bdp h)) (fun r2 μ2 h => ?_)
    refine s_iconst dX12_isStruck_17 kI_m1 ?_
    refine s_icmp_eq (tgt := 25) dX12_isStruck_18 rfl (fun c1 => ?_) (fun c1 => ?_)
    · have h := o_if_t c1 h
      refine s_iconst dX12_isStruck_25 kI_0 ?_
      exact s_zreturn rfl (Or.inl rfl) dX12_isStruck_26 ⟨_, rfl, (Or.inl rfl), o_ret h⟩
    · have h := o_if_f c1 h
      refine s_iconst dX12_isStruck_21 kI_1 ?_
      refine s_goto (tgt := 26) dX12_isStruck_22 rfl ?_
      exact s_zreturn rfl (Or.inr rfl) dX12_isStruck_26 ⟨_, rfl, (Or.inr rfl), o_ret h⟩
theorem dX12_laysVia_0 : decode cX12_laysVia 0 = .ok (.iconst 0, 1) := by decide +kernel
theorem dX12_laysVia_1 : decode cX12_laysVia 1 = .ok (.istore 4, 2) := by decide +kernel
theorem dX12_laysVia_3 : decode cX12_laysVia 3 = .ok (.iload 4, 2) := by decide +kernel
theorem dX12_laysVia_5 : decode cX12_laysVia 5 = .ok (.aload_n 0, 1) := by decide +kernel
theorem dX12_laysVia_6 : decode cX12_laysVia 6 = .ok (.getfield 7, 3) := by decide +kernel
theorem dX12_laysVia_9 : decode cX12_laysVia 9 = .ok (.iconst 2, 1) := by decide +kernel
theorem dX12_laysVia_10 : decode cX12_laysVia 10 = .ok (.iaload, 1) := by decide +kernel
theorem dX12_laysVia_11 : decode cX12_laysVia 11 = .ok (.if_icmp .ge 47, 3) := by decide +kernel
theorem dX12_laysVia_14 : decode cX12_laysVia 14 = .ok (.aload_n 0, 1) := by decide +kernel
theorem dX12_laysVia_15 : decode cX12_laysVia 15 = .ok (.getfield 47, 3) := by decide +kernel
theorem dX12_laysVia_18 : decode cX12_laysVia 18 = .ok (.iload 4, 2) := by decide +kernel
theorem dX12_laysVia_20 : decode cX12_laysVia 20 = .ok (.iload 4, 2) := by decide +kernel
theorem dX12_laysVia_22 : decode cX12_laysVia 22 = .ok (.iload_n 1, 1) := by decide +kernel
theorem dX12_laysVia_23 : decode cX12_laysVia 23 = .ok (.if_icmp .eq 25, 3) := by decide +kernel
theorem dX12_laysVia_26 : decode cX12_laysVia 26 = .ok (.aload_n 0, 1) := by decide +kernel
theorem dX12_laysVia_27 : decode cX12_laysVia 27 = .ok (.iload 4, 2) := by decide +kernel
theorem dX12_laysVia_29 : decode cX12_laysVia 29 = .ok (.iload_n 1, 1) := by decide +kernel
theorem dX12_laysVia_30 : decode cX12_laysVia 30 = .ok (.iload_n 2, 1) := by decide +kernel
theorem dX12_laysVia_31 : decode cX12_laysVia 31 = .ok (.aload_n 0, 1) := by decide +kernel
theorem dX12_laysVia_32 : decode cX12_laysVia 32 = .ok (.iload 4, 2) := by decide +kernel
theorem dX12_laysVia_34 : decode cX12_laysVia 34 = .ok (.invokevirtual 290, 3) := by decide +kernel
theorem dX12_laysVia_37 : decode cX12_laysVia 37 = .ok (.invokevirtual 325, 3) := by decide +kernel
theorem dX12_laysVia_40 : decode cX12_laysVia 40 = .ok (.iload_n 3, 1) := by decide +kernel
theorem dX12_laysVia_41 : decode cX12_laysVia 41 = .ok (.if_icmp .ne 7, 3) := by decide +kernel
theorem dX12_laysVia_44 : decode cX12_laysVia 44 = .ok (.iconst 1, 1) := by decide +kernel
theorem dX12_laysVia_45 : decode cX12_laysVia 45 = .ok (.goto 6, 3) := by decide +kernel
theorem dX12_laysVia_48 : decode cX12_laysVia 48 = .ok (.ldc_w 366, 3) := by decide +kernel
theorem dX12_laysVia_51 : decode cX12_laysVia 51 = .ok (.iastore, 1) := by decide +kernel
theorem dX12_laysVia_52 : decode cX12_laysVia 52 = .ok (.iinc 4 1, 3) := by decide +kernel
theorem dX12_laysVia_55 : decode cX12_laysVia 55 = .ok (.goto (-52), 3) := by decide +kernel
theorem dX12_laysVia_58 : decode cX12_laysVia 58 = .ok (.iconst 0, 1) := by decide +kernel
theorem dX12_laysVia_59 : decode cX12_laysVia 59 = .ok (.istore 4, 2) := by decide +kernel
theorem dX12_laysVia_61 : decode cX12_laysVia 61 = .ok (.iload 4, 2) := by decide +kernel
theorem dX12_laysVia_63 : decode cX12_laysVia 63 = .ok (.bipush 6, 2) := by decide +kernel
theorem dX12_laysVia_65 : decode cX12_laysVia 65 = .ok (.if_icmp .ge 87, 3) := by decide +kernel
theorem dX12_laysVia_68 : decode cX12_laysVia 68 = .ok (.iconst 0, 1) := by decide +kernel
theorem dX12_laysVia_69 : decode cX12_laysVia 69 = .ok (.istore 5, 2) := by decide +kernel
theorem dX12_laysVia_71 : decode cX12_laysVia 71 = .ok (.iload 5, 2) := by decide +kernel
theorem dX12_laysVia_73 : decode cX12_laysVia 73 = .ok (.aload_n 0, 1) := by decide +kernel
theorem dX12_laysVia_74 : decode cX12_laysVia 74 = .ok (.getfield 7, 3) := by decide +kernel
theorem dX12_laysVia_77 : decode cX12_laysVia 77 = .ok (.iconst 2, 1) := by decide +kernel
theorem dX12_laysVia_78 : decode cX12_laysVia 78 = .ok (.iaload, 1) := by decide +kernel
theorem dX12_laysVia_79 : decode cX12_laysVia 79 = .ok (.if_icmp .ge 67, 3) := by decide +kernel
theorem dX12_laysVia_82 : decode cX12_laysVia 82 = .ok (.iconst 0, 1) := by decide +kernel
theorem dX12_laysVia_83 : decode cX12_laysVia 83 = .ok (.istore 6, 2) := by decide +kernel
theorem dX12_laysVia_85 : decode cX12_laysVia 85 = .ok (.iload 6, 2) := by decide +kernel
theorem dX12_laysVia_87 : decode cX12_laysVia 87 = .ok (.aload_n 0, 1) := by decide +kernel
theorem dX12_laysVia_88 : decode cX12_laysVia 88 = .ok (.getfield 7, 3) := by decide +kernel
theorem dX12_laysVia_91 : decode cX12_laysVia 91 = .ok (.iconst 2, 1) := by decide +kernel
theorem dX12_laysVia_92 : decode cX12_laysVia 92 = .ok (.iaload, 1) := by decide +kernel
theorem dX12_laysVia_93 : decode cX12_laysVia 93 = .ok (.if_icmp .ge 47, 3) := by decide +kernel
theorem dX12_laysVia_96 : decode cX12_laysVia 96 = .ok (.aload_n 0, 1) := by decide +kernel
theorem dX12_laysVia_97 : decode cX12_laysVia 97 = .ok (.iload 5, 2) := by decide +kernel
theorem dX12_laysVia_99 : decode cX12_laysVia 99 = .ok (.iload 6, 2) := by decide +kernel
theorem dX12_laysVia_101 : decode cX12_laysVia 101 = .ok (.iload_n 2, 1) := by decide +kernel
theorem dX12_laysVia_102 : decode cX12_laysVia 102 = .ok (.invokevirtual 367, 3) := by decide +kernel
theorem dX12_laysVia_105 : decode cX12_laysVia 105 = .ok (.ifCond .eq 29, 3) := by decide +kernel
theorem dX12_laysVia_108 : decode cX12_laysVia 108 = .ok (.aload_n 0, 1) := by decide +kernel
theorem dX12_laysVia_109 : decode cX12_laysVia 109 = .ok (.getfield 47, 3) := by decide +kernel
theorem dX12_laysVia_112 : decode cX12_laysVia 112 = .ok (.iload 5, 2) := by decide +kernel
theorem dX12_laysVia_114 : decode cX12_laysVia 114 = .ok (.aload_n 0, 1) := by decide +kernel
theorem dX12_laysVia_115 : decode cX12_laysVia 115 = .ok (.getfield 47, 3) := by decide +kernel
theorem dX12_laysVia_118 : decode cX12_laysVia 118 = .ok (.iload 5, 2) := by decide +kernel
theorem dX12_laysVia_120 : decode cX12_laysVia 120 = .ok (.iaload, 1) := by decide +kernel
theorem dX12_laysVia_121 : decode cX12_laysVia 121 = .ok (.aload_n 0, 1) := by decide +kernel
theorem dX12_laysVia_122 : decode cX12_laysVia 122 = .ok (.getfield 47, 3) := by decide +kernel
theorem dX12_laysVia_125 : decode cX12_laysVia 125 = .ok (.iload 6, 2) := by decide +kernel
theorem dX12_laysVia_127 : decode cX12_laysVia 127 = .ok (.iaload, 1) := by decide +kernel
theorem dX12_laysVia_128 : decode cX12_laysVia 128 = .ok (.iconst 1, 1) := by decide +kernel
theorem dX12_laysVia_129 : decode cX12_laysVia 129 = .ok (.iadd, 1) := by decide +kernel
theorem dX12_laysVia_130 : decode cX12_laysVia 130 = .ok (.invokestatic 142, 3) := by decide +kernel
theorem dX12_laysVia_133 : decode cX12_laysVia 133 = .ok (.iastore, 1) := by decide +kernel
theorem dX12_laysVia_134 : decode cX12_laysVia 134 = .ok (.iinc 6 1, 3) := by decide +kernel
theorem dX12_laysVia_137 : decode cX12_laysVia 137 = .ok (.goto (-52), 3) := by decide +kernel
theorem dX12_laysVia_140 : decode cX12_laysVia 140 = .ok (.iinc 5 1, 3) := by decide +kernel
theorem dX12_laysVia_143 : decode cX12_laysVia 143 = .ok (.goto (-72), 3) := by decide +kernel
theorem dX12_laysVia_146 : decode cX12_laysVia 146 = .ok (.iinc 4 1, 3) := by decide +kernel
theorem dX12_laysVia_149 : decode cX12_laysVia 149 = .ok (.goto (-88), 3) := by decide +kernel
theorem dX12_laysVia_152 : decode cX12_laysVia 152 = .ok (.return_, 1) := by decide +kernel
noncomputable def fX12_laysVia_j51 (rf : Nat → Nat → Nat) (a0 : Nat) (x1 : Int32) (x2 : Int32) (x3 : Int32) (x4 : Int32) (b0 : Nat) (y1 : Int32) (y2 : Int32) (μ0 : o_Mem) : Option ((Nat × (Int32)) × o_Mem) :=
  o_ck (0 ≤ (y1).toInt ∧ (y1).toInt < 6) <|
  o_seq (o_wI μ0 b0 y1.toNatClampNeg y2) fun μ1 =>
  some ((3, (x4 + 1)), μ1)
noncomputable def fX12_laysVia_j48 (rf : Nat → Nat → Nat) (a0 : Nat) (x1 : Int32) (x2 : Int32) (x3 : Int32) (x4 : Int32) (b0 : Nat) (y1 : Int32) (μ0 : o_Mem) : Option ((Nat × (Int32)) × o_Mem) :=
  fX12_laysVia_j51 rf a0 x1 x2 x3 x4 b0 y1 1000000 μ0
noncomputable def fX12_laysVia_s3 (rf : Nat → Nat → Nat) (a0 : Nat) (x1 : Int32) (x2 : Int32) (x3 : Int32) (τ3 : Int32) (μ0 : o_Mem) : Option ((Nat × (Int32)) × o_Mem) :=
  if (μ0.1 (rf a0 0) 2) ≤ τ3 then (
    some ((58, 0), μ0))
  else (
    if τ3 = x1 then (
      fX12_laysVia_j48 rf a0 x1 x2 x3 τ3 (rf a0 24) τ3 μ0)
    else (
      o_bd (fX12_handOf rf a0 τ3 μ0) fun r1 μ1 =>
      o_bd (fX12_sober rf a0 τ3 x1 x2 r1 μ1) fun r2 μ2 =>
      if r2 = x3 then (
        fX12_laysVia_j51 rf a0 x1 x2 x3 τ3 (rf a0 24) τ3 1 μ2)
      else (
        fX12_laysVia_j48 rf a0 x1 x2 x3 τ3 (rf a0 24) τ3 μ2)))
noncomputable def fX12_laysVia_s85 (rf : Nat → Nat → Nat) (a0 : Nat) (x2 : Int32) (x4 : Int32) (x5 : Int32) (τ85 : Int32) (μ0 : o_Mem) : Option ((Nat × (Int32)) × o_Mem) :=
  if (μ0.1 (rf a0 0) 2) ≤ τ85 then (
    some ((140, 0), μ0))
  else (
    o_bd (fX12_isStruck rf a0 x5 τ85 x2 μ0) fun r1 μ1 =>
    if r1 = 0 then (
      some ((85, (τ85 + 1)), μ1))
    else (
      o_ck (0 ≤ (x5).toInt ∧ (x5).toInt < 6) <|
      o_ck (0 ≤ (τ85).toInt ∧ (τ85).toInt < 6) <|
      o_ck (0 ≤ (x5).toInt ∧ (x5).toInt < 6) <|
      o_seq (o_wI μ1 (rf a0 24) x5.toNatClampNeg (if (μ1.1 (rf a0 24) x5.toNatClampNeg) > ((μ1.1 (rf a0 24) τ85.toNatClampNeg) + 1) then ((μ1.1 (rf a0 24) τ85.toNatClampNeg) + 1) else (μ1.1 (rf a0 24) x5.toNatClampNeg))) fun μ2 =>
      some ((85, (τ85 + 1)), μ2)))
noncomputable def fX12_laysVia_s71 (rf : Nat → Nat → Nat) (a0 : Nat) (x2 : Int32) (x4 : Int32) (τ71 : Int32) (μ0 : o_Mem) : Option ((Nat × (Int32)) × o_Mem) :=
  if (μ0.1 (rf a0 0) 2) ≤ τ71 then (
    some ((146, 0), μ0))
  else (
    o_bd (o_lp 85 (fX12_laysVia_s85 rf a0 x2 x4 τ71) o_fuel (0 : Int32) μ0) fun ex1 μ1 =>
    if ex1.1 = 140 then (
      some ((71, (τ71 + 1)), μ1))
    else
      none)
noncomputable def fX12_laysVia_s61 (rf : Nat → Nat → Nat) (a0 : Nat) (x2 : Int32) (τ61 : Int32) (μ0 : o_Mem) : Option ((Nat × (Int32)) × o_Mem) :=
  if 6 ≤ τ61 then (
    some ((152, 0), μ0))
  else (
    o_bd (o_lp 71 (fX12_laysVia_s71 rf a0 x2 τ61) o_fuel (0 : Int32) μ0) fun ex1 μ1 =>
    if ex1.1 = 146 then (
      some ((61, (τ61 + 1)), μ1))
    else
      none)
noncomputable def fX12_laysVia (rf : Nat → Nat → Nat) (a0 : Nat) (x1 : Int32) (x2 : Int32) (x3 : Int32) (μ0 : o_Mem) : Option (Unit × o_Mem) :=
  o_bd (o_lp 3 (fX12_laysVia_s3 rf a0 x1 x2 x3) o_fuel (0 : Int32) μ0) fun ex1 μ1 =>
  if ex1.1 = 58 then (
    o_bd (o_lp 61 (fX12_laysVia_s61 rf a0 x2) o_fuel (0 : Int32) μ1) fun ex2 μ2 =>
    if ex2.1 = 152 then (
      some ((), μ2))
    else
      none)
  else
    none
set_option maxRecDepth 20000 in
theorem dnX12_laysVia_j51 {X : o_Cx} (hX : o_ok X) {d : Nat} {a0 : Nat} {x1 : Int32} {x2 : Int32} {x3 : Int32} {x4 : Int32} {b0 : Nat} {y1 : Int32} {y2 : Int32} {μ0 : o_Mem} {K : (Nat × (Int32)) → o_Mem → Prop} {Q : Option Value → o_Mem → Prop} (h0 : o_is X a0 (.inl 12)) (hb0 : o_is X b0 (.inr (0, 6))) (h : o_Post (fX12_laysVia_j51 (o_rf X) a0 x1 x2 x3 x4 b0 y1 y2 μ0) K) (kh : ∀ (τ3 : Int32) (μ : o_Mem), K (3, τ3) μ → o_Ev X (d + 5) mX12_laysVia 3 [some (.ref (o_ad X a0)), some (.int x1), some (.int x2), some (.int x3), some (.int τ3), none, none] [] μ Q) (k58 : ∀ (τ3 : Int32) (μ : o_Mem), K (58, τ3) μ → o_Ev X (d + 5) mX12_laysVia 58 [some (.ref (o_ad X a0)), none, some (.int x2), none, none, none, none] [] μ Q) : o_Ev X (d + 5) mX12_laysVia 51 [some (.ref (o_ad X a0)), some (.int x1), some (.int x2), some (.int x3), some (.int x4), none, none] [.int y2, .int y1, .ref (o_ad X b0)] μ0 Q := by
  unfold fX12_laysVia_j51 at h
  have hc := o_ck_c h
  have h := o_ck_k h
  refine s_iastK hX hb0 hc rfl dX12_laysVia_51 (o_gen h (fun μ1 h => ?_))
  refine s_iinc (v := (x4 + 1)) dX12_laysVia_52 rfl rfl (Nat.le_of_ble_eq_true rfl) rfl ?_
  refine s_goto (tgt := 3) dX12_laysVia_55 rfl ?_
  refine s_mask [true, true, true, true, true, false, false] (L' := [some (.ref (o_ad X a0)), some (.int x1), some (.int x2), some (.int x3), some (.int (x4 + 1)), none, none]) rfl ?_
  exact kh (x4 + 1) _ (o_ret h)
set_option maxRecDepth 20000 in
theorem dnX12_laysVia_j48 {X : o_Cx} (hX : o_ok X) {d : Nat} {a0 : Nat} {x1 : Int32} {x2 : Int32} {x3 : Int32} {x4 : Int32} {b0 : Nat} {y1 : Int32} {μ0 : o_Mem} {K : (Nat × (Int32)) → o_Mem → Prop} {Q : Option Value → o_Mem → Prop} (h0 : o_is X a0 (.inl 12)) (hb0 : o_is X b0 (.inr (0, 6))) (h : o_Post (fX12_laysVia_j48 (o_rf X) a0 x1 x2 x3 x4 b0 y1 μ0) K) (kh : ∀ (τ3 : Int32) (μ : o_Mem), K (3, τ3) μ → o_Ev X (d + 5) mX12_laysVia 3 [some (.ref (o_ad X a0)), some (.int x1), some (.int x2), some (.int x3), some (.int τ3), none, none] [] μ Q) (k58 : ∀ (τ3 : Int32) (μ : o_Mem), K (58, τ3) μ → o_Ev X (d + 5) mX12_laysVia 58 [some (.ref (o_ad X a0)), none, some (.int x2), none, none, none, none] [] μ Q) : o_Ev X (d + 5) mX12_laysVia 48 [some (.ref (o_ad X a0)), some (.int x1), some (.int x2), some (.int x3), some (.int x4), none, none] [.int y1, .ref (o_ad X b0)] μ0 Q := by
  unfold fX12_laysVia_j48 at h
  refine s_ldcw (v := 1000000) w_8_188 dX12_laysVia_48 ?_
  refine s_mask [true, true, true, true, true, false, false] (L' := [some (.ref (o_ad X a0)), some (.int x1), some (.int x2), some (.int x3), some (.int x4), none, none]) rfl ?_
  exact dnX12_laysVia_j51 hX h0 hb0 h kh k58
set_option maxRecDepth 20000 in
theorem dnX12_laysVia_s3 {X : o_Cx} (hX : o_ok X) {d : Nat} {a0 : Nat} {x1 : Int32} {x2 : Int32} {x3 : Int32} {τ3 : Int32} {μ0 : o_Mem} {K : (Nat × (Int32)) → o_Mem → Prop} {Q : Option Value → o_Mem → Prop} (h0 : o_is X a0 (.inl 12)) (h : o_Post (fX12_laysVia_s3 (o_rf X) a0 x1 x2 x3 τ3 μ0) K) (kh : ∀ (τ3 : Int32) (μ : o_Mem), K (3, τ3) μ → o_Ev X (d + 5) mX12_laysVia 3 [some (.ref (o_ad X a0)), some (.int x1), some (.int x2), some (.int x3), some (.int τ3), none, none] [] μ Q) (k58 : ∀ (τ3 : Int32) (μ : o_Mem), K (58, τ3) μ → o_Ev X (d + 5) mX12_laysVia 58 [some (.ref (o_ad X a0)), none, some (.int x2), none, none, none, none] [] μ Q) : o_Ev X (d + 5) mX12_laysVia 3 [some (.ref (o_ad X a0)), some (.int x1), some (.int x2), some (.int x3), some (.int τ3), none, none] [] μ0 Q := by
  unfold fX12_laysVia_s3 at h
  refine s_iload dX12_laysVia_3 rfl ?_
  refine s_aload_n (i := 0) dX12_laysVia_5 rfl rfl ?_
  refine s_getR hX h0 flX12_7 rfl dX12_laysVia_6 (fun (g1 : o_is X (o_rf X a0 0) (.inr (0, 3756))) => ?_)
  refine s_iconst dX12_laysVia_9 kI_2 ?_
  refine s_ialdK g1 ⟨by decide, by decide⟩ kN_2 dX12_laysVia_10 ?_
  refine s_icmp_ge (tgt := 58) dX12_laysVia_11 rfl (fun c1 => ?_) (fun c1 => ?_)
  · have h := o_if_t c1 h
    refine s_mask [true, false, true, false, false, false, false] (L' := [some (.ref (o_ad X a0)), none, some (.int x2), none, none, none, none]) rfl ?_
    exact k58 0 _ (o_ret h)
  · have h := o_if_f c1 h
    refine s_aload_n (i := 0) dX12_laysVia_14 rfl rfl ?_
    refine s_getR hX h0 flX12_47 rfl dX12_laysVia_15 (fun (g2 : o_is X (o_rf X a0 24) (.inr (0, 6))) => ?_)
    refine s_iload dX12_laysVia_18 rfl ?_
    refine s_iload dX12_laysVia_20 rfl ?_
    refine s_iload_n (i := 1) dX12_laysVia_22 rfl rfl ?_
    refine s_icmp_eq (tgt := 48) dX12_laysVia_23 rfl (fun c1 => ?_) (fun c1 => ?_)
    · have h := o_if_t c1 h
      refine s_mask [true, true, true, true, true, false, false] (L' := [some (.ref (o_ad X a0)), some (.int x1), some (.int x2), some (.int x3), some (.int τ3), none, none]) rfl ?_
      exact dnX12_laysVia_j48 hX h0 g2 h kh k58
    · have h := o_if_f c1 h
      refine s_aload_n (i := 0) dX12_laysVia_26 rfl rfl ?_
      refine s_iload dX12_laysVia_27 rfl ?_
      refine s_iload_n (i := 1) dX12_laysVia_29 rfl rfl ?_
      refine s_iload_n (i := 2) dX12_laysVia_30 rfl rfl ?_
      refine s_aload_n (i := 0) dX12_laysVia_31 rfl rfl ?_
      refine s_iload dX12_laysVia_32 rfl ?_
      refine s_callVi (C := mX12_handOf) (As := [.int τ3]) (rest := [.int x2, .int x1, .int τ3, .ref (o_ad X a0), .int τ3, .ref (o_ad X (o_rf X a0 24))]) (L0 := [some (.ref (o_ad X a0)), some (.int τ3)]) hX h0 clX12_290 dX12_laysVia_34 rfl rfl (Nat.le_of_ble_eq_true rfl) (Nat.le_of_ble_eq_true rfl) (dnX12_handOf hX h0 (o_bdp h)) (fun r1 μ1 h => ?_)
      refine s_callVi (C := mX12_sober) (As := [.int τ3, .int x1, .int x2, .int r1]) (rest := [.int τ3, .ref (o_ad X (o_rf X a0 24))]) (L0 := [some (.ref (o_ad X a0)), some (.int τ3), some (.int x1), some (.int x2), some (.int r1)]) hX h0 clX12_325 dX12_laysVia_37 rfl rfl (Nat.le_of_ble_eq_true rfl) (Nat.le_of_ble_eq_true rfl) (dnX12_sober hX h0 (o_bdp h)) (fun r2 μ2 h => ?_)
      refine s_iload_n (i := 3) dX12_laysVia_40 rfl rfl ?_
      refine s_icmp_ne (tgt := 48) dX12_laysVia_41 rfl (fun c1 => ?_) (fun c1 => ?_)
      · have h := o_if_f c1 h
        refine s_mask [true, true, true, true, true, false, false] (L' := [some (.ref (o_ad X a0)), some (.int x1), some (.int x2), some (.int x3), some (.int τ3), none, none]) rfl ?_
        exact dnX12_laysVia_j48 hX h0 g2 h kh k58
      · have h := o_if_t c1 h
        refine s_iconst dX12_laysVia_44 kI_1 ?_
        refine s_goto (tgt := 51) dX12_laysVia_45 rfl ?_
        refine s_mask [true, true, true, true, true, false, false] (L' := [some (.ref (o_ad X a0)), some (.int x1), some (.int x2), some (.int x3), some (.int τ3), none, none]) rfl ?_
        exact dnX12_laysVia_j51 hX h0 g2 h kh k58
set_option maxRecDepth 20000 in
theorem dnX12_laysVia_s85 {X : o_Cx} (hX : o_ok X) {d : Nat} {a0 : Nat} {x2 : Int32} {x4 : Int32} {x5 : Int32} {τ85 : Int32} {μ0 : o_Mem} {K : (Nat × (Int32)) → o_Mem → Prop} {Q : Option Value → o_Mem → Prop} (h0 : o_is X a0 (.inl 12)) (h : o_Post (fX12_laysVia_s85 (o_rf X) a0 x2 x4 x5 τ85 μ0) K) (kh : ∀ (τ85 : Int32) (μ : o_Mem), K (85, τ85) μ → o_Ev X (d + 5) mX12_laysVia 85 [some (.ref (o_ad X a0)), none, some (.int x2), none, some (.int x4), some (.int x5), some (.int τ85)] [] μ Q) (k140 : ∀ (τ85 : Int32) (μ : o_Mem), K (140, τ85) μ → o_Ev X (d + 5) mX12_laysVia 140 [some (.ref (o_ad X a0)), none, some (.int x2), none, some (.int x4), some (.int x5), none] [] μ Q) : o_Ev X (d + 5) mX12_laysVia 85 [some (.ref (o_ad X a0)), none, some (.int x2), none, some (.int x4), some (.int x5), some (.int τ85)] [] μ0 Q := by
  unfold fX12_laysVia_s85 at h
  refine s_iload dX12_laysVia_85 rfl ?_
  refine s_aload_n (i := 0) dX12_laysVia_87 rfl rfl ?_
  refine s_getR hX h0 flX12_7 rfl dX12_laysVia_88 (fun (g1 : o_is X (o_rf X a0 0) (.inr (0, 3756))) => ?_)
  refine s_iconst dX12_laysVia_91 kI_2 ?_
  refine s_ialdK g1 ⟨by decide, by decide⟩ kN_2 dX12_laysVia_92 ?_
  refine s_icmp_ge (tgt := 140) dX12_laysVia_93 rfl (fun c1 => ?_) (fun c1 => ?_)
  · have h := o_if_t c1 h
    refine s_mask [true, false, true, false, true, true, false] (L' := [some (.ref (o_ad X a0)), none, some (.int x2), none, some (.int x4), some (.int x5), none]) rfl ?_
    exact k140 0 _ (o_ret h)
  · have h := o_if_f c1 h
    refine s_aload_n (i := 0) dX12_laysVia_96 rfl rfl ?_
    refine s_iload dX12_laysVia_97 rfl ?_
    refine s_iload dX12_laysVia_99 rfl ?_
    refine s_iload_n (i := 2) dX12_laysVia_101 rfl rfl ?_
    refine s_callVz (C := mX12_isStruck) (As := [.int x5, .int τ85, .int x2]) (rest := []) (L0 := [some (.ref (o_ad X a0)), some (.int x5), some (.int τ85), some (.int x2)]) hX h0 clX12_367 dX12_laysVia_102 rfl rfl (Nat.le_of_ble_eq_true rfl) (Nat.le_of_ble_eq_true rfl) (dnX12_isStruck hX h0 (o_bdp h)) (fun r1 μ1 zr1 h => ?_)
    refine s_if_eq (tgt := 134) dX12_laysVia_105 rfl (fun c1 => ?_) (fun c1 => ?_)
    · have h := o_if_t c1 h
      refine s_iinc (v := (τ85 + 1)) dX12_laysVia_134 rfl rfl (Nat.le_of_ble_eq_true rfl) rfl ?_
      refine s_goto (tgt := 85) dX12_laysVia_137 rfl ?_
      refine s_mask [true, false, true, false, true, true, true] (L' := [some (.ref (o_ad X a0)), none, some (.int x2), none, some (.int x4), some (.int x5), some (.int (τ85 + 1))]) rfl ?_
      exact kh (τ85 + 1) _ (o_ret h)
    · have h := o_if_f c1 h
      refine s_aload_n (i := 0) dX12_laysVia_108 rfl rfl ?_
      refine s_getR hX h0 flX12_47 rfl dX12_laysVia_109 (fun (g2 : o_is X (o_rf X a0 24) (.inr (0, 6))) => ?_)
      refine s_iload dX12_laysVia_112 rfl ?_
      refine s_aload_n (i := 0) dX12_laysVia_114 rfl rfl ?_
      refine s_getR hX h0 flX12_47 rfl dX12_laysVia_115 (fun (g3 : o_is X (o_rf X a0 24) (.inr (0, 6))) => ?_)
      refine s_iload dX12_laysVia_118 rfl ?_
      have hc := o_ck_c h
      have h := o_ck_k h
      refine s_ialdK g3 hc rfl dX12_laysVia_120 ?_
      refine s_aload_n (i := 0) dX12_laysVia_121 rfl rfl ?_
      refine s_getR hX h0 flX12_47 rfl dX12_laysVia_122 (fun (g4 : o_is X (o_rf X a0 24) (.inr (0, 6))) => ?_)
      refine s_iload dX12_laysVia_125 rfl ?_
      have hc := o_ck_c h
      have h := o_ck_k h
      refine s_ialdK g4 hc rfl dX12_laysVia_127 ?_
      refine s_iconst dX12_laysVia_128 kI_1 ?_
      refine s_iadd dX12_laysVia_129 ?_
      refine s_min mlX12_142 mst_min mini mco_min (Nat.le_of_ble_eq_true rfl) dX12_laysVia_130 ?_
      have hc := o_ck_c h
      have h := o_ck_k h
      refine s_iastK hX g2 hc rfl dX12_laysVia_133 (o_gen h (fun μ2 h => ?_))
      refine s_iinc (v := (τ85 + 1)) dX12_laysVia_134 rfl rfl (Nat.le_of_ble_eq_true rfl) rfl ?_
      refine s_goto (tgt := 85) dX12_laysVia_137 rfl ?_
      refine s_mask [true, false, true, false, true, true, true] (L' := [some (.ref (o_ad X a0)), none, some (.int x2), none, some (.int x4), some (.int x5), some (.int (τ85 + 1))]) rfl ?_
      exact kh (τ85 + 1) _ (o_ret h)
set_option maxRecDepth 20000 in
theorem dnX12_laysVia_s71 {X : o_Cx} (hX : o_ok X) {d : Nat} {a0 : Nat} {x2 : Int32} {x4 : Int32} {τ71 : Int32} {μ0 : o_Mem} {K : (Nat × (Int32)) → o_Mem → Prop} {Q : Option Value → o_Mem → Prop} (h0 : o_is X a0 (.inl 12)) (h : o_Post (fX12_laysVia_s71 (o_rf X) a0 x2 x4 τ71 μ0) K) (kh : ∀ (τ71 : Int32) (μ : o_Mem), K (71, τ71) μ → o_Ev X (d + 5) mX12_laysVia 71 [some (.ref (o_ad X a0)), none, some (.int x2), none, some (.int x4), some (.int τ71), none] [] μ Q) (k146 : ∀ (τ71 : Int32) (μ : o_Mem), K (146, τ71) μ → o_Ev X (d + 5) mX12_laysVia 146 [some (.ref (o_ad X a0)), none, some (.int x2), none, some (.int x4), none, none] [] μ Q) : o_Ev X (d + 5) mX12_laysVia 71 [some (.ref (o_ad X a0)), none, some (.int x2), none, some (.int x4), some (.int τ71), none] [] μ0 Q := by
  unfold fX12_laysVia_s71 at h
  refine s_iload dX12_laysVia_71 rfl ?_
  refine s_aload_n (i := 0) dX12_laysVia_73 rfl rfl ?_
  refine s_getR hX h0 flX12_7 rfl dX12_laysVia_74 (fun (g1 : o_is X (o_rf X a0 0) (.inr (0, 3756))) => ?_)
  refine s_iconst dX12_laysVia_77 kI_2 ?_
  refine s_ialdK g1 ⟨by decide, by decide⟩ kN_2 dX12_laysVia_78 ?_
  refine s_icmp_ge (tgt := 146) dX12_laysVia_79 rfl (fun c1 => ?_) (fun c1 => ?_)
  · have h := o_if_t c1 h
    refine s_mask [true, false, true, false, true, false, false] (L' := [some (.ref (o_ad X a0)), none, some (.int x2), none, some (.int x4), none, none]) rfl ?_
    exact k146 0 _ (o_ret h)
  · have h := o_if_f c1 h
    refine s_iconst dX12_laysVia_82 kI_0 ?_
    refine s_istore dX12_laysVia_83 (Nat.le_of_ble_eq_true rfl) rfl ?_
    refine s_mask [true, false, true, false, true, true, true] (L' := [some (.ref (o_ad X a0)), none, some (.int x2), none, some (.int x4), some (.int τ71), some (.int 0)]) rfl ?_
    refine o_lp_ev (fun τ85 => [some (.ref (o_ad X a0)), none, some (.int x2), none, some (.int x4), some (.int τ71), some (.int τ85)]) (fun τ85 μ _K h kv ke85 => dnX12_laysVia_s85 hX h0 h kv (fun τ85 μ1 h => ?_)) o_fuel 0 μ0 (o_bdp h)
    · have h := o_if_t rfl (ke85 (140, τ85) μ1 (o_ne rfl) h)
      refine s_iinc (v := (τ71 + 1)) dX12_laysVia_140 rfl rfl (Nat.le_of_ble_eq_true rfl) rfl ?_
      refine s_goto (tgt := 71) dX12_laysVia_143 rfl ?_
      refine s_mask [true, false, true, false, true, true, false] (L' := [some (.ref (o_ad X a0)), none, some (.int x2), none, some (.int x4), some (.int (τ71 + 1)), none]) rfl ?_
      exact kh (τ71 + 1) _ (o_ret h)
set_option maxRecDepth 20000 in
theorem dnX12_laysVia_s61 {X : o_Cx} (hX : o_ok X) {d : Nat} {a0 : Nat} {x2 : Int32} {τ61 : Int32} {μ0 : o_Mem} {K : (Nat × (Int32)) → o_Mem → Prop} {Q : Option Value → o_Mem → Prop} (h0 : o_is X a0 (.inl 12)) (h : o_Post (fX12_laysVia_s61 (o_rf X) a0 x2 τ61 μ0) K) (kh : ∀ (τ61 : Int32) (μ : o_Mem), K (61, τ61) μ → o_Ev X (d + 5) mX12_laysVia 61 [some (.ref (o_ad X a0)), none, some (.int x2), none, some (.int τ61), none, none] [] μ Q) (k152 : ∀ (τ61 : Int32) (μ : o_Mem), K (152, τ61) μ → o_Ev X (d + 5) mX12_laysVia 152 [none, none, none, none, none, none, none] [] μ Q) : o_Ev X (d + 5) mX12_laysVia 61 [some (.ref (o_ad X a0)), none, some (.int x2), none, some (.int τ61), none, none] [] μ0 Q := by
  unfold fX12_laysVia_s61 at h
  refine s_iload dX12_laysVia_61 rfl ?_
  refine s_bipush dX12_laysVia_63 kB_6 ?_
  refine s_icmp_ge (tgt := 152) dX12_laysVia_65 rfl (fun c1 => ?_) (fun c1 => ?_)
  · have h := o_if_t c1 h
    refine s_mask [false, false, false, false, false, false, false] (L' := [none, none, none, none, none, none, none]) rfl ?_
    exact k152 0 _ (o_ret h)
  · have h := o_if_f c1 h
    refine s_iconst dX12_laysVia_68 kI_0 ?_
    refine s_istore dX12_laysVia_69 (Nat.le_of_ble_eq_true rfl) rfl ?_
    refine s_mask [true, false, true, false, true, true, false] (L' := [some (.ref (o_ad X a0)), none, some (.int x2), none, some (.int τ61), some (.int 0), none]) rfl ?_
    refine o_lp_ev (fun τ71 => [some (.ref (o_ad X a0)), none, some (.int x2), none, some (.int τ61), some (.int τ71), none]) (fun τ71 μ _K h kv ke71 => dnX12_laysVia_s71 hX h0 h kv (fun τ71 μ1 h => ?_)) o_fuel 0 μ0 (o_bdp h)
    · have h := o_if_t rfl (ke71 (146, τ71) μ1 (o_ne rfl) h)
      refine s_iinc (v := (τ61 + 1)) dX12_laysVia_146 rfl rfl (Nat.le_of_ble_eq_true rfl) rfl ?_
      refine s_goto (tgt := 61) dX12_laysVia_149 rfl ?_
      refine s_mask [true, false, true, false, true, false, false] (L' := [some (.ref (o_ad X a0)), none, some (.int x2), none, some (.int (τ61 + 1)), none, none]) rfl ?_
      exact kh (τ61 + 1) _ (o_ret h)
set_option maxRecDepth 20000 in
theorem dnX12_laysVia {X : o_Cx} (hX : o_ok X) {d : Nat} {a0 : Nat} {x1 : Int32} {x2 : Int32} {x3 : Int32} {μ0 : o_Mem} {q : Unit → o_Mem → Prop} (h0 : o_is X a0 (.inl 12)) (h : o_Post (fX12_laysVia (o_rf X) a0 x1 x2 x3 μ0) q) : o_Ev X (d + 5) mX12_laysVia 0 [some (.ref (o_ad X a0)), some (.int x1), some (.int x2), some (.int x3), none, none, none] [] μ0 (o_QU q) := by
  unfold fX12_laysVia at h
  refine s_iconst dX12_laysVia_0 kI_0 ?_
  refine s_istore dX12_laysVia_1 (Nat.le_of_ble_eq_true rfl) rfl ?_
  refine s_mask [true, true, true, true, true, false, false] (L' := [some (.ref (o_ad X a0)), some (.int x1), some (.int x2), some (.int x3), some (.int 0), none, none]) rfl ?_
  refine o_lp_ev (fun τ3 => [some (.ref (o_ad X a0)), some (.int x1), some (.int x2), some (.int x3), some (.int τ3), none, none]) (fun τ3 μ _K h kv ke3 => dnX12_laysVia_s3 hX h0 h kv (fun τ3 μ1 h => ?_)) o_fuel 0 μ0 (o_bdp h)
  · have h := o_if_t rfl (ke3 (58, τ3) μ1 (o_ne rfl) h)
    refine s_iconst dX12_laysVia_58 kI_0 ?_
    refine s_istore dX12_laysVia_59 (Nat.le_of_ble_eq_true rfl) rfl ?_
    refine s_mask [true, false, true, false, true, false, false] (L' := [some (.ref (o_ad X a0)), none, some (.int x2), none, some (.int 0), none, none]) rfl ?_
    refine o_lp_ev (fun τ61 => [some (.ref (o_ad X a0)), none, some (.int x2), none, some (.int τ61), none, none]) (fun τ61 μ _K h kv ke61 => dnX12_laysVia_s61 hX h0 h kv (fun τ61 μ2 h => ?_)) o_fuel 0 μ1 (o_bdp h)
    · have h := o_if_t rfl (ke61 (152, τ61) μ2 (o_ne rfl) h)
      exact s_return rfl dX12_laysVia_152 ⟨rfl, o_ret h⟩
theorem dX12_isWay_0 : decode cX12_isWay 0 = .ok (.aload_n 0, 1) := by decide +kernel
theorem dX12_isWay_1 : decode cX12_isWay 1 = .ok (.iload_n 1, 1) := by decide +kernel
theorem dX12_isWay_2 : decode cX12_isWay 2 = .ok (.iload_n 2, 1) := by decide +kernel
theorem dX12_isWay_3 : decode cX12_isWay 3 = .ok (.invokevirtual 274, 3) := by decide +kernel
theorem dX12_isWay_6 : decode cX12_isWay 6 = .ok (.ifCond .eq 25, 3) := by decide +kernel
theorem dX12_isWay_9 : decode cX12_isWay 9 = .ok (.iload_n 3, 1) := by decide +kernel
theorem dX12_isWay_10 : decode cX12_isWay 10 = .ok (.i2l, 1) := by decide +kernel
theorem dX12_isWay_11 : decode cX12_isWay 11 = .ok (.invokestatic 277, 3) := by decide +kernel
theorem dX12_isWay_14 : decode cX12_isWay 14 = .ok (.ifCond .eq 17, 3) := by decide +kernel
theorem dX12_isWay_17 : decode cX12_isWay 17 = .ok (.aload_n 0, 1) := by decide +kernel
theorem dX12_isWay_18 : decode cX12_isWay 18 = .ok (.iload 4, 2) := by decide +kernel
theorem dX12_isWay_20 : decode cX12_isWay 20 = .ok (.i2l, 1) := by decide +kernel
theorem dX12_isWay_21 : decode cX12_isWay 21 = .ok (.invokevirtual 284, 3) := by decide +kernel
theorem dX12_isWay_24 : decode cX12_isWay 24 = .ok (.ifCond .eq 7, 3) := by decide +kernel
theorem dX12_isWay_27 : decode cX12_isWay 27 = .ok (.iconst 1, 1) := by decide +kernel
theorem dX12_isWay_28 : decode cX12_isWay 28 = .ok (.goto 4, 3) := by decide +kernel
theorem dX12_isWay_31 : decode cX12_isWay 31 = .ok (.iconst 0, 1) := by decide +kernel
theorem dX12_isWay_32 : decode cX12_isWay 32 = .ok (.ireturn, 1) := by decide +kernel
noncomputable def fX12_isWay (rf : Nat → Nat → Nat) (a0 : Nat) (x1 : Int32) (x2 : Int32) (x3 : Int32) (x4 : Int32) (μ0 : o_Mem) : Option (Int32 × o_Mem) :=
  o_bd (fX12_areTwo rf a0 x1 x2 μ0) fun r1 μ1 =>
  if r1 = 0 then (
    some (0, μ1))
  else (
    o_bd (fX12_isWeight rf x3.toInt64 μ1) fun r2 μ2 =>
    if r2 = 0 then (
      some (0, μ2))
    else (
      o_bd (fX12_isStrike rf a0 x4.toInt64 μ2) fun r3 μ3 =>
      if r3 = 0 then (
        some (0, μ3))
      else (
        some (1, μ3))))
set_option maxRecDepth 20000 in
theorem dnX12_isWay {X : o_Cx} (hX : o_ok X) {d : Nat} {a0 : Nat} {x1 : Int32} {x2 : Int32} {x3 : Int32} {x4 : Int32} {μ0 : o_Mem} {q : Int32 → o_Mem → Prop} (h0 : o_is X a0 (.inl 12)) (h : o_Post (fX12_isWay (o_rf X) a0 x1 x2 x3 x4 μ0) q) : o_Ev X (d + 2) mX12_isWay 0 [some (.ref (o_ad X a0)), some (.int x1), some (.int x2), some (.int x3), some (.int x4)] [] μ0 (o_QZ q) := by
  unfold fX12_isWay at h
  refine s_aload_n (i := 0) dX12_isWay_0 rfl rfl ?_
  refine s_iload_n (i := 1) dX12_isWay_1 rfl rfl ?_
  refine s_iload_n (i := 2) dX12_isWay_2 rfl rfl ?_
  refine s_callVz (C := mX12_areTwo) (As := [.int x1, .int x2]) (rest := []) (L0 := [some (.ref (o_ad X a0)), some (.int x1), some (.int x2)]) hX h0 clX12_274 dX12_isWay_3 rfl rfl (Nat.le_of_ble_eq_true rfl) (Nat.le_of_ble_eq_true rfl) (dnX12_areTwo hX h0 (o_bdp h)) (fun r1 μ1 zr1 h => ?_)
  refine s_if_eq (tgt := 31) dX12_isWay_6 rfl (fun c1 => ?_) (fun c1 => ?_)
  · have h := o_if_t c1 h
    refine s_iconst dX12_isWay_31 kI_0 ?_
    exact s_zreturn rfl (Or.inl rfl) dX12_isWay_32 ⟨_, rfl, (Or.inl rfl), o_ret h⟩
  · have h := o_if_f c1 h
    refine s_iload_n (i := 3) dX12_isWay_9 rfl rfl ?_
    refine s_i2l dX12_isWay_10 ?_
    refine s_callSz (C := mX12_isWeight) (As := [.long x3.toInt64]) (rest := []) (L0 := [some (.long x3.toInt64), none]) clX12_277 dX12_isWay_11 rfl rfl (Nat.le_of_ble_eq_true rfl) (Nat.le_of_ble_eq_true rfl) (dnX12_isWeight hX  (o_bdp h)) (fun r2 μ2 zr2 h => ?_)
    refine s_if_eq (tgt := 31) dX12_isWay_14 rfl (fun c1 => ?_) (fun c1 => ?_)
    · have h := o_if_t c1 h
      refine s_iconst dX12_isWay_31 kI_0 ?_
      exact s_zreturn rfl (Or.inl rfl) dX12_isWay_32 ⟨_, rfl, (Or.inl rfl), o_ret h⟩
    · have h := o_if_f c1 h
      refine s_aload_n (i := 0) dX12_isWay_17 rfl rfl ?_
      refine s_iload dX12_isWay_18 rfl ?_
      refine s_i2l dX12_isWay_20 ?_
      refine s_callVz (C := mX12_isStrike) (As := [.long x4.toInt64]) (rest := []) (L0 := [some (.ref (o_ad X a0)), some (.long x4.toInt64), none]) hX h0 clX12_284 dX12_isWay_21 rfl rfl (Nat.le_of_ble_eq_true rfl) (Nat.le_of_ble_eq_true rfl) (dnX12_isStrike hX h0 (o_bdp h)) (fun r3 μ3 zr3 h => ?_)
      refine s_if_eq (tgt := 31) dX12_isWay_24 rfl (fun c1 => ?_) (fun c1 => ?_)
      · have h := o_if_t c1 h
        refine s_iconst dX12_isWay_31 kI_0 ?_
        exact s_zreturn rfl (Or.inl rfl) dX12_isWay_32 ⟨_, rfl, (Or.inl rfl), o_ret h⟩
      · have h := o_if_f c1 h
        refine s_iconst dX12_isWay_27 kI_1 ?_
        refine s_goto (tgt := 32) dX12_isWay_28 rfl ?_
        exact s_zreturn rfl (Or.inr rfl) dX12_isWay_32 ⟨_, rfl, (Or.inr rfl), o_ret h⟩
theorem dX12_via_0 : decode cX12_via 0 = .ok (.aload_n 0, 1) := by decide +kernel
theorem dX12_via_1 : decode cX12_via 1 = .ok (.iload_n 1, 1) := by decide +kernel
theorem dX12_via_2 : decode cX12_via 2 = .ok (.iload_n 2, 1) := by decide +kernel
theorem dX12_via_3 : decode cX12_via 3 = .ok (.iload_n 3, 1) := by decide +kernel
theorem dX12_via_4 : decode cX12_via 4 = .ok (.iload 4, 2) := by decide +kernel
theorem dX12_via_6 : decode cX12_via 6 = .ok (.invokevirtual 370, 3) := by decide +kernel
theorem dX12_via_9 : decode cX12_via 9 = .ok (.ifCond .ne 9, 3) := by decide +kernel
theorem dX12_via_12 : decode cX12_via 12 = .ok (.aload_n 0, 1) := by decide +kernel
theorem dX12_via_13 : decode cX12_via 13 = .ok (.iconst 1, 1) := by decide +kernel
theorem dX12_via_14 : decode cX12_via 14 = .ok (.invokevirtual 87, 3) := by decide +kernel
theorem dX12_via_17 : decode cX12_via 17 = .ok (.ireturn, 1) := by decide +kernel
theorem dX12_via_18 : decode cX12_via 18 = .ok (.aload_n 0, 1) := by decide +kernel
theorem dX12_via_19 : decode cX12_via 19 = .ok (.iload_n 2, 1) := by decide +kernel
theorem dX12_via_20 : decode cX12_via 20 = .ok (.iload_n 3, 1) := by decide +kernel
theorem dX12_via_21 : decode cX12_via 21 = .ok (.iload 4, 2) := by decide +kernel
theorem dX12_via_23 : decode cX12_via 23 = .ok (.invokevirtual 373, 3) := by decide +kernel
theorem dX12_via_26 : decode cX12_via 26 = .ok (.aload_n 0, 1) := by decide +kernel
theorem dX12_via_27 : decode cX12_via 27 = .ok (.getfield 47, 3) := by decide +kernel
theorem dX12_via_30 : decode cX12_via 30 = .ok (.iload_n 1, 1) := by decide +kernel
theorem dX12_via_31 : decode cX12_via 31 = .ok (.iaload, 1) := by decide +kernel
theorem dX12_via_32 : decode cX12_via 32 = .ok (.ldc_w 366, 3) := by decide +kernel
theorem dX12_via_35 : decode cX12_via 35 = .ok (.if_icmp .lt 12, 3) := by decide +kernel
theorem dX12_via_38 : decode cX12_via 38 = .ok (.aload_n 0, 1) := by decide +kernel
theorem dX12_via_39 : decode cX12_via 39 = .ok (.bipush 6, 2) := by decide +kernel
theorem dX12_via_41 : decode cX12_via 41 = .ok (.invokevirtual 87, 3) := by decide +kernel
theorem dX12_via_44 : decode cX12_via 44 = .ok (.goto 13, 3) := by decide +kernel
theorem dX12_via_47 : decode cX12_via 47 = .ok (.aload_n 0, 1) := by decide +kernel
theorem dX12_via_48 : decode cX12_via 48 = .ok (.aload_n 0, 1) := by decide +kernel
theorem dX12_via_49 : decode cX12_via 49 = .ok (.getfield 47, 3) := by decide +kernel
theorem dX12_via_52 : decode cX12_via 52 = .ok (.iload_n 1, 1) := by decide +kernel
theorem dX12_via_53 : decode cX12_via 53 = .ok (.iaload, 1) := by decide +kernel
theorem dX12_via_54 : decode cX12_via 54 = .ok (.invokevirtual 91, 3) := by decide +kernel
theorem dX12_via_57 : decode cX12_via 57 = .ok (.ireturn, 1) := by decide +kernel
noncomputable def fX12_via (rf : Nat → Nat → Nat) (a0 : Nat) (x1 : Int32) (x2 : Int32) (x3 : Int32) (x4 : Int32) (μ0 : o_Mem) : Option (Int32 × o_Mem) :=
  o_bd (fX12_isWay rf a0 x1 x2 x3 x4 μ0) fun r1 μ1 =>
  if r1 = 0 then (
    o_bd (fX12_refuse rf a0 1 μ1) fun r4 μ5 =>
    some (r4, μ5))
  else (
    o_bd (fX12_laysVia rf a0 x2 x3 x4 μ1) fun _u μ2 =>
    o_ck (0 ≤ (x1).toInt ∧ (x1).toInt < 6) <|
    if (μ2.1 (rf a0 24) x1.toNatClampNeg) < 1000000 then (
      o_ck (0 ≤ (x1).toInt ∧ (x1).toInt < 6) <|
      o_bd (fX12_gives rf a0 (μ2.1 (rf a0 24) x1.toNatClampNeg) μ2) fun r2 μ3 =>
      some (r2, μ3))
    else (
      o_bd (fX12_refuse rf a0 6 μ2) fun r3 μ4 =>
      some (r3, μ4)))
set_option maxRecDepth 20000 in
theorem dnX12_via {X : o_Cx} (hX : o_ok X) {d : Nat} {a0 : Nat} {x1 : Int32} {x2 : Int32} {x3 : Int32} {x4 : Int32} {μ0 : o_Mem} {q : Int32 → o_Mem → Prop} (h0 : o_is X a0 (.inl 12)) (h : o_Post (fX12_via (o_rf X) a0 x1 x2 x3 x4 μ0) q) : o_Ev X (d + 6) mX12_via 0 [some (.ref (o_ad X a0)), some (.int x1), some (.int x2), some (.int x3), some (.int x4)] [] μ0 (o_QI q) := by
  unfold fX12_via at h
  refine s_aload_n (i := 0) dX12_via_0 rfl rfl ?_
  refine s_iload_n (i := 1) dX12_via_1 rfl rfl ?_
  refine s_iload_n (i := 2) dX12_via_2 rfl rfl ?_
  refine s_iload_n (i := 3) dX12_via_3 rfl rfl ?_
  refine s_iload dX12_via_4 rfl ?_
  refine s_callVz (C := mX12_isWay) (As := [.int x1, .int x2, .int x3, .int x4]) (rest := []) (L0 := [some (.ref (o_ad X a0)), some (.int x1), some (.int x2), some (.int x3), some (.int x4)]) hX h0 clX12_370 dX12_via_6 rfl rfl (Nat.le_of_ble_eq_true rfl) (Nat.le_of_ble_eq_true rfl) (dnX12_isWay hX h0 (o_bdp h)) (fun r1 μ1 zr1 h => ?_)
  refine s_if_ne (tgt := 18) dX12_via_9 rfl (fun c1 => ?_) (fun c1 => ?_)
  · have h := o_if_f c1 h
    refine s_aload_n (i := 0) dX12_via_18 rfl rfl ?_
    refine s_iload_n (i := 2) dX12_via_19 rfl rfl ?_
    refine s_iload_n (i := 3) dX12_via_20 rfl rfl ?_
    refine s_iload dX12_via_21 rfl ?_
    refine s_callVu (C := mX12_laysVia) (As := [.int x2, .int x3, .int x4]) (rest := []) (L0 := [some (.ref (o_ad X a0)), some (.int x2), some (.int x3), some (.int x4), none, none, none]) hX h0 clX12_373 dX12_via_23 rfl rfl (Nat.le_of_ble_eq_true rfl) (Nat.le_of_ble_eq_true rfl) (dnX12_laysVia hX h0 (o_bdp h)) (fun _u μ2 h => ?_)
    refine s_aload_n (i := 0) dX12_via_26 rfl rfl ?_
    refine s_getR hX h0 flX12_47 rfl dX12_via_27 (fun (g1 : o_is X (o_rf X a0 24) (.inr (0, 6))) => ?_)
    refine s_iload_n (i := 1) dX12_via_30 rfl rfl ?_
    have hc := o_ck_c h
    have h := o_ck_k h
    refine s_ialdK g1 hc rfl dX12_via_31 ?_
    refine s_ldcw (v := 1000000) w_8_188 dX12_via_32 ?_
    refine s_icmp_lt (tgt := 47) dX12_via_35 rfl (fun c1 => ?_) (fun c1 => ?_)
    · have h := o_if_t c1 h
      refine s_aload_n (i := 0) dX12_via_47 rfl rfl ?_
      refine s_aload_n (i := 0) dX12_via_48 rfl rfl ?_
      refine s_getR hX h0 flX12_47 rfl dX12_via_49 (fun (g2 : o_is X (o_rf X a0 24) (.inr (0, 6))) => ?_)
      refine s_iload_n (i := 1) dX12_via_52 rfl rfl ?_
      have hc := o_ck_c h
      have h := o_ck_k h
      refine s_ialdK g2 hc rfl dX12_via_53 ?_
      refine s_callVi (C := mX12_gives) (As := [.int (μ2.1 (o_rf X a0 24) x1.toNatClampNeg)]) (rest := []) (L0 := [some (.ref (o_ad X a0)), some (.int (μ2.1 (o_rf X a0 24) x1.toNatClampNeg))]) hX h0 clX12_91 dX12_via_54 rfl rfl (Nat.le_of_ble_eq_true rfl) (Nat.le_of_ble_eq_true rfl) (dnX12_gives hX h0 (o_bdp h)) (fun r2 μ3 h => ?_)
      exact s_ireturn rfl dX12_via_57 ⟨_, rfl, o_ret h⟩
    · have h := o_if_f c1 h
      refine s_aload_n (i := 0) dX12_via_38 rfl rfl ?_
      refine s_bipush dX12_via_39 kB_6 ?_
      refine s_callVi (C := mX12_refuse) (As := [.int 6]) (rest := []) (L0 := [some (.ref (o_ad X a0)), some (.int 6)]) hX h0 clX12_87 dX12_via_41 rfl rfl (Nat.le_of_ble_eq_true rfl) (Nat.le_of_ble_eq_true rfl) (dnX12_refuse hX h0 (o_bdp h)) (fun r3 μ4 h => ?_)
      refine s_goto (tgt := 57) dX12_via_44 rfl ?_
      exact s_ireturn rfl dX12_via_57 ⟨_, rfl, o_ret h⟩
  · have h := o_if_t c1 h
    refine s_aload_n (i := 0) dX12_via_12 rfl rfl ?_
    refine s_iconst dX12_via_13 kI_1 ?_
    refine s_callVi (C := mX12_refuse) (As := [.int 1]) (rest := []) (L0 := [some (.ref (o_ad X a0)), some (.int 1)]) hX h0 clX12_87 dX12_via_14 rfl rfl (Nat.le_of_ble_eq_true rfl) (Nat.le_of_ble_eq_true rfl) (dnX12_refuse hX h0 (o_bdp h)) (fun r4 μ5 h => ?_)
    exact s_ireturn rfl dX12_via_17 ⟨_, rfl, o_ret h⟩
theorem dX12_viaFirst_0 : decode cX12_viaFirst 0 = .ok (.aload_n 0, 1) := by decide +kernel
theorem dX12_viaFirst_1 : decode cX12_viaFirst 1 = .ok (.iload_n 1, 1) := by decide +kernel
theorem dX12_viaFirst_2 : decode cX12_viaFirst 2 = .ok (.iload_n 2, 1) := by decide +kernel
theorem dX12_viaFirst_3 : decode cX12_viaFirst 3 = .ok (.iload_n 3, 1) := by decide +kernel
theorem dX12_viaFirst_4 : decode cX12_viaFirst 4 = .ok (.iload 4, 2) := by decide +kernel
theorem dX12_viaFirst_6 : decode cX12_viaFirst 6 = .ok (.invokevirtual 370, 3) := by decide +kernel
theorem dX12_viaFirst_9 : decode cX12_viaFirst 9 = .ok (.ifCond .ne 9, 3) := by decide +kernel
theorem dX12_viaFirst_12 : decode cX12_viaFirst 12 = .ok (.aload_n 0, 1) := by decide +kernel
theorem dX12_viaFirst_13 : decode cX12_viaFirst 13 = .ok (.iconst 1, 1) := by decide +kernel
theorem dX12_viaFirst_14 : decode cX12_viaFirst 14 = .ok (.invokevirtual 87, 3) := by decide +kernel
theorem dX12_viaFirst_17 : decode cX12_viaFirst 17 = .ok (.ireturn, 1) := by decide +kernel
theorem dX12_viaFirst_18 : decode cX12_viaFirst 18 = .ok (.aload_n 0, 1) := by decide +kernel
theorem dX12_viaFirst_19 : decode cX12_viaFirst 19 = .ok (.iload_n 2, 1) := by decide +kernel
theorem dX12_viaFirst_20 : decode cX12_viaFirst 20 = .ok (.iload_n 3, 1) := by decide +kernel
theorem dX12_viaFirst_21 : decode cX12_viaFirst 21 = .ok (.iload 4, 2) := by decide +kernel
theorem dX12_viaFirst_23 : decode cX12_viaFirst 23 = .ok (.invokevirtual 373, 3) := by decide +kernel
theorem dX12_viaFirst_26 : decode cX12_viaFirst 26 = .ok (.aload_n 0, 1) := by decide +kernel
theorem dX12_viaFirst_27 : decode cX12_viaFirst 27 = .ok (.getfield 47, 3) := by decide +kernel
theorem dX12_viaFirst_30 : decode cX12_viaFirst 30 = .ok (.iload_n 1, 1) := by decide +kernel
theorem dX12_viaFirst_31 : decode cX12_viaFirst 31 = .ok (.iaload, 1) := by decide +kernel
theorem dX12_viaFirst_32 : decode cX12_viaFirst 32 = .ok (.iconst 1, 1) := by decide +kernel
theorem dX12_viaFirst_33 : decode cX12_viaFirst 33 = .ok (.if_icmp .ne 9, 3) := by decide +kernel
theorem dX12_viaFirst_36 : decode cX12_viaFirst 36 = .ok (.aload_n 0, 1) := by decide +kernel
theorem dX12_viaFirst_37 : decode cX12_viaFirst 37 = .ok (.iload_n 2, 1) := by decide +kernel
theorem dX12_viaFirst_38 : decode cX12_viaFirst 38 = .ok (.invokevirtual 91, 3) := by decide +kernel
theorem dX12_viaFirst_41 : decode cX12_viaFirst 41 = .ok (.ireturn, 1) := by decide +kernel
theorem dX12_viaFirst_42 : decode cX12_viaFirst 42 = .ok (.iconst 0, 1) := by decide +kernel
theorem dX12_viaFirst_43 : decode cX12_viaFirst 43 = .ok (.istore 5, 2) := by decide +kernel
theorem dX12_viaFirst_45 : decode cX12_viaFirst 45 = .ok (.iload 5, 2) := by decide +kernel
theorem dX12_viaFirst_47 : decode cX12_viaFirst 47 = .ok (.aload_n 0, 1) := by decide +kernel
theorem dX12_viaFirst_48 : decode cX12_viaFirst 48 = .ok (.getfield 7, 3) := by decide +kernel
theorem dX12_viaFirst_51 : decode cX12_viaFirst 51 = .ok (.iconst 2, 1) := by decide +kernel
theorem dX12_viaFirst_52 : decode cX12_viaFirst 52 = .ok (.iaload, 1) := by decide +kernel
theorem dX12_viaFirst_53 : decode cX12_viaFirst 53 = .ok (.if_icmp .ge 57, 3) := by decide +kernel
theorem dX12_viaFirst_56 : decode cX12_viaFirst 56 = .ok (.aload_n 0, 1) := by decide +kernel
theorem dX12_viaFirst_57 : decode cX12_viaFirst 57 = .ok (.getfield 47, 3) := by decide +kernel
theorem dX12_viaFirst_60 : decode cX12_viaFirst 60 = .ok (.iload_n 1, 1) := by decide +kernel
theorem dX12_viaFirst_61 : decode cX12_viaFirst 61 = .ok (.iaload, 1) := by decide +kernel
theorem dX12_viaFirst_62 : decode cX12_viaFirst 62 = .ok (.ldc_w 366, 3) := by decide +kernel
theorem dX12_viaFirst_65 : decode cX12_viaFirst 65 = .ok (.if_icmp .ge 45, 3) := by decide +kernel
theorem dX12_viaFirst_68 : decode cX12_viaFirst 68 = .ok (.aload_n 0, 1) := by decide +kernel
theorem dX12_viaFirst_69 : decode cX12_viaFirst 69 = .ok (.iload_n 1, 1) := by decide +kernel
theorem dX12_viaFirst_70 : decode cX12_viaFirst 70 = .ok (.iload 5, 2) := by decide +kernel
theorem dX12_viaFirst_72 : decode cX12_viaFirst 72 = .ok (.iload_n 3, 1) := by decide +kernel
theorem dX12_viaFirst_73 : decode cX12_viaFirst 73 = .ok (.invokevirtual 367, 3) := by decide +kernel
theorem dX12_viaFirst_76 : decode cX12_viaFirst 76 = .ok (.ifCond .eq 28, 3) := by decide +kernel
theorem dX12_viaFirst_79 : decode cX12_viaFirst 79 = .ok (.aload_n 0, 1) := by decide +kernel
theorem dX12_viaFirst_80 : decode cX12_viaFirst 80 = .ok (.getfield 47, 3) := by decide +kernel
theorem dX12_viaFirst_83 : decode cX12_viaFirst 83 = .ok (.iload 5, 2) := by decide +kernel
theorem dX12_viaFirst_85 : decode cX12_viaFirst 85 = .ok (.iaload, 1) := by decide +kernel
theorem dX12_viaFirst_86 : decode cX12_viaFirst 86 = .ok (.aload_n 0, 1) := by decide +kernel
theorem dX12_viaFirst_87 : decode cX12_viaFirst 87 = .ok (.getfield 47, 3) := by decide +kernel
theorem dX12_viaFirst_90 : decode cX12_viaFirst 90 = .ok (.iload_n 1, 1) := by decide +kernel
theorem dX12_viaFirst_91 : decode cX12_viaFirst 91 = .ok (.iaload, 1) := by decide +kernel
theorem dX12_viaFirst_92 : decode cX12_viaFirst 92 = .ok (.iconst 1, 1) := by decide +kernel
theorem dX12_viaFirst_93 : decode cX12_viaFirst 93 = .ok (.isub, 1) := by decide +kernel
theorem dX12_viaFirst_94 : decode cX12_viaFirst 94 = .ok (.if_icmp .ne 10, 3) := by decide +kernel
theorem dX12_viaFirst_97 : decode cX12_viaFirst 97 = .ok (.aload_n 0, 1) := by decide +kernel
theorem dX12_viaFirst_98 : decode cX12_viaFirst 98 = .ok (.iload 5, 2) := by decide +kernel
theorem dX12_viaFirst_100 : decode cX12_viaFirst 100 = .ok (.invokevirtual 91, 3) := by decide +kernel
theorem dX12_viaFirst_103 : decode cX12_viaFirst 103 = .ok (.ireturn, 1) := by decide +kernel
theorem dX12_viaFirst_104 : decode cX12_viaFirst 104 = .ok (.iinc 5 1, 3) := by decide +kernel
theorem dX12_viaFirst_107 : decode cX12_viaFirst 107 = .ok (.goto (-62), 3) := by decide +kernel
theorem dX12_viaFirst_110 : decode cX12_viaFirst 110 = .ok (.aload_n 0, 1) := by decide +kernel
theorem dX12_viaFirst_111 : decode cX12_viaFirst 111 = .ok (.bipush 6, 2) := by decide +kernel
theorem dX12_viaFirst_113 : decode cX12_viaFirst 113 = .ok (.invokevirtual 87, 3) := by decide +kernel
theorem dX12_viaFirst_116 : decode cX12_viaFirst 116 = .ok (.ireturn, 1) := by decide +kernel
noncomputable def fX12_viaFirst_s45 (rf : Nat → Nat → Nat) (a0 : Nat) (x1 : Int32) (x3 : Int32) (τ45 : Int32) (μ0 : o_Mem) : Option ((Nat × (Int32)) × o_Mem) :=
  if (μ0.1 (rf a0 0) 2) ≤ τ45 then (
    some ((110, 0), μ0))
  else (
    o_ck (0 ≤ (x1).toInt ∧ (x1).toInt < 6) <|
    if 1000000 ≤ (μ0.1 (rf a0 24) x1.toNatClampNeg) then (
      some ((110, 0), μ0))
    else (
      o_bd (fX12_isStruck rf a0 x1 τ45 x3 μ0) fun r1 μ1 =>
      if r1 = 0 then (
        some ((45, (τ45 + 1)), μ1))
      else (
        o_ck (0 ≤ (τ45).toInt ∧ (τ45).toInt < 6) <|
        o_ck (0 ≤ (x1).toInt ∧ (x1).toInt < 6) <|
        if (μ1.1 (rf a0 24) τ45.toNatClampNeg) = ((μ1.1 (rf a0 24) x1.toNatClampNeg) - 1) then (
          some ((97, τ45), μ1))
        else (
          some ((45, (τ45 + 1)), μ1)))))
noncomputable def fX12_viaFirst_j110 (rf : Nat → Nat → Nat) (a0 : Nat) (μ0 : o_Mem) : Option (Int32 × o_Mem) :=
  o_bd (fX12_refuse rf a0 6 μ0) fun r1 μ1 =>
  some (r1, μ1)
noncomputable def fX12_viaFirst (rf : Nat → Nat → Nat) (a0 : Nat) (x1 : Int32) (x2 : Int32) (x3 : Int32) (x4 : Int32) (μ0 : o_Mem) : Option (Int32 × o_Mem) :=
  o_bd (fX12_isWay rf a0 x1 x2 x3 x4 μ0) fun r1 μ1 =>
  if r1 = 0 then (
    o_bd (fX12_refuse rf a0 1 μ1) fun r4 μ6 =>
    some (r4, μ6))
  else (
    o_bd (fX12_laysVia rf a0 x2 x3 x4 μ1) fun _u μ2 =>
    o_ck (0 ≤ (x1).toInt ∧ (x1).toInt < 6) <|
    if (μ2.1 (rf a0 24) x1.toNatClampNeg) = 1 then (
      o_bd (fX12_gives rf a0 x2 μ2) fun r3 μ5 =>
      some (r3, μ5))
    else (
      o_bd (o_lp 45 (fX12_viaFirst_s45 rf a0 x1 x3) o_fuel (0 : Int32) μ2) fun ex3 μ3 =>
      if ex3.1 = 97 then (
        o_bd (fX12_gives rf a0 ex3.2 μ3) fun r2 μ4 =>
        some (r2, μ4))
      else
      if ex3.1 = 110 then (
        fX12_viaFirst_j110 rf a0 μ3)
      else
        none))
set_option maxRecDepth 20000 in
theorem dnX12_viaFirst_s45 {X : o_Cx} (hX : o_ok X) {d : Nat} {a0 : Nat} {x1 : Int32} {x3 : Int32} {τ45 : Int32} {μ0 : o_Mem} {K : (Nat × (Int32)) → o_Mem → Prop} {Q : Option Value → o_Mem → Prop} (h0 : o_is X a0 (.inl 12)) (h : o_Post (fX12_viaFirst_s45 (o_rf X) a0 x1 x3 τ45 μ0) K) (kh : ∀ (τ45 : Int32) (μ : o_Mem), K (45, τ45) μ → o_Ev X (d + 6) mX12_viaFirst 45 [some (.ref (o_ad X a0)), some (.int x1), none, some (.int x3), none, some (.int τ45)] [] μ Q) (k97 : ∀ (τ45 : Int32) (μ : o_Mem), K (97, τ45) μ → o_Ev X (d + 6) mX12_viaFirst 97 [some (.ref (o_ad X a0)), none, none, none, none, some (.int τ45)] [] μ Q) (k110 : ∀ (τ45 : Int32) (μ : o_Mem), K (110, τ45) μ → o_Ev X (d + 6) mX12_viaFirst 110 [some (.ref (o_ad X a0)), none, none, none, none, none] [] μ Q) : o_Ev X (d + 6) mX12_viaFirst 45 [some (.ref (o_ad X a0)), some (.int x1), none, some (.int x3), none, some (.int τ45)] [] μ0 Q := by
  unfold fX12_viaFirst_s45 at h
  refine s_iload dX12_viaFirst_45 rfl ?_
  refine s_aload_n (i := 0) dX12_viaFirst_47 rfl rfl ?_
  refine s_getR hX h0 flX12_7 rfl dX12_viaFirst_48 (fun (g1 : o_is X (o_rf X a0 0) (.inr (0, 3756))) => ?_)
  refine s_iconst dX12_viaFirst_51 kI_2 ?_
  refine s_ialdK g1 ⟨by decide, by decide⟩ kN_2 dX12_viaFirst_52 ?_
  refine s_icmp_ge (tgt := 110) dX12_viaFirst_53 rfl (fun c1 => ?_) (fun c1 => ?_)
  · have h := o_if_t c1 h
    refine s_mask [true, false, false, false, false, false] (L' := [some (.ref (o_ad X a0)), none, none, none, none, none]) rfl ?_
    exact k110 0 _ (o_ret h)
  · have h := o_if_f c1 h
    refine s_aload_n (i := 0) dX12_viaFirst_56 rfl rfl ?_
    refine s_getR hX h0 flX12_47 rfl dX12_viaFirst_57 (fun (g2 : o_is X (o_rf X a0 24) (.inr (0, 6))) => ?_)
    refine s_iload_n (i := 1) dX12_viaFirst_60 rfl rfl ?_
    have hc := o_ck_c h
    have h := o_ck_k h
    refine s_ialdK g2 hc rfl dX12_viaFirst_61 ?_
    refine s_ldcw (v := 1000000) w_8_188 dX12_viaFirst_62 ?_
    refine s_icmp_ge (tgt := 110) dX12_viaFirst_65 rfl (fun c1 => ?_) (fun c1 => ?_)
    · have h := o_if_t c1 h
      refine s_mask [true, false, false, false, false, false] (L' := [some (.ref (o_ad X a0)), none, none, none, none, none]) rfl ?_
      exact k110 0 _ (o_ret h)
    · have h := o_if_f c1 h
      refine s_aload_n (i := 0) dX12_viaFirst_68 rfl rfl ?_
      refine s_iload_n (i := 1) dX12_viaFirst_69 rfl rfl ?_
      refine s_iload dX12_viaFirst_70 rfl ?_
      refine s_iload_n (i := 3) dX12_viaFirst_72 rfl rfl ?_
      refine s_callVz (C := mX12_isStruck) (As := [.int x1, .int τ45, .int x3]) (rest := []) (L0 := [some (.ref (o_ad X a0)), some (.int x1), some (.int τ45), some (.int x3)]) hX h0 clX12_367 dX12_viaFirst_73 rfl rfl (Nat.le_of_ble_eq_true rfl) (Nat.le_of_ble_eq_true rfl) (dnX12_isStruck hX h0 (o_bdp h)) (fun r1 μ1 zr1 h => ?_)
      refine s_if_eq (tgt := 104) dX12_viaFirst_76 rfl (fun c1 => ?_) (fun c1 => ?_)
      · have h := o_if_t c1 h
        refine s_iinc (v := (τ45 + 1)) dX12_viaFirst_104 rfl rfl (Nat.le_of_ble_eq_true rfl) rfl ?_
        refine s_goto (tgt := 45) dX12_viaFirst_107 rfl ?_
        refine s_mask [true, true, false, true, false, true] (L' := [some (.ref (o_ad X a0)), some (.int x1), none, some (.int x3), none, some (.int (τ45 + 1))]) rfl ?_
        exact kh (τ45 + 1) _ (o_ret h)
      · have h := o_if_f c1 h
        refine s_aload_n (i := 0) dX12_viaFirst_79 rfl rfl ?_
        refine s_getR hX h0 flX12_47 rfl dX12_viaFirst_80 (fun (g3 : o_is X (o_rf X a0 24) (.inr (0, 6))) => ?_)
        refine s_iload dX12_viaFirst_83 rfl ?_
        have hc := o_ck_c h
        have h := o_ck_k h
        refine s_ialdK g3 hc rfl dX12_viaFirst_85 ?_
        refine s_aload_n (i := 0) dX12_viaFirst_86 rfl rfl ?_
        refine s_getR hX h0 flX12_47 rfl dX12_viaFirst_87 (fun (g4 : o_is X (o_rf X a0 24) (.inr (0, 6))) => ?_)
        refine s_iload_n (i := 1) dX12_viaFirst_90 rfl rfl ?_
        have hc := o_ck_c h
        have h := o_ck_k h
        refine s_ialdK g4 hc rfl dX12_viaFirst_91 ?_
        refine s_iconst dX12_viaFirst_92 kI_1 ?_
        refine s_isub dX12_viaFirst_93 ?_
        refine s_icmp_ne (tgt := 104) dX12_viaFirst_94 rfl (fun c1 => ?_) (fun c1 => ?_)
        · have h := o_if_f c1 h
          refine s_iinc (v := (τ45 + 1)) dX12_viaFirst_104 rfl rfl (Nat.le_of_ble_eq_true rfl) rfl ?_
          refine s_goto (tgt := 45) dX12_viaFirst_107 rfl ?_
          refine s_mask [true, true, false, true, false, true] (L' := [some (.ref (o_ad X a0)), some (.int x1), none, some (.int x3), none, some (.int (τ45 + 1))]) rfl ?_
          exact kh (τ45 + 1) _ (o_ret h)
        · have h := o_if_t c1 h
          refine s_mask [true, false, false, false, false, true] (L' := [some (.ref (o_ad X a0)), none, none, none, none, some (.int τ45)]) rfl ?_
          exact k97 τ45 _ (o_ret h)
set_option maxRecDepth 20000 in
theorem dnX12_viaFirst_j110 {X : o_Cx} (hX : o_ok X) {d : Nat} {a0 : Nat} {μ0 : o_Mem} {q : Int32 → o_Mem → Prop} (h0 : o_is X a0 (.inl 12)) (h : o_Post (fX12_viaFirst_j110 (o_rf X) a0 μ0) q) : o_Ev X (d + 6) mX12_viaFirst 110 [some (.ref (o_ad X a0)), none, none, none, none, none] [] μ0 (o_QI q) := by
  unfold fX12_viaFirst_j110 at h
  refine s_aload_n (i := 0) dX12_viaFirst_110 rfl rfl ?_
  refine s_bipush dX12_viaFirst_111 kB_6 ?_
  refine s_callVi (C := mX12_refuse) (As := [.int 6]) (rest := []) (L0 := [some (.ref (o_ad X a0)), some (.int 6)]) hX h0 clX12_87 dX12_viaFirst_113 rfl rfl (Nat.le_of_ble_eq_true rfl) (Nat.le_of_ble_eq_true rfl) (dnX12_refuse hX h0 (o_bdp h)) (fun r1 μ1 h => ?_)
  exact s_ireturn rfl dX12_viaFirst_116 ⟨_, rfl, o_ret h⟩
set_option maxRecDepth 20000 in
theorem dnX12_viaFirst {X : o_Cx} (hX : o_ok X) {d : Nat} {a0 : Nat} {x1 : Int32} {x2 : Int32} {x3 : Int32} {x4 : Int32} {μ0 : o_Mem} {q : Int32 → o_Mem → Prop} (h0 : o_is X a0 (.inl 12)) (h : o_Post (fX12_viaFirst (o_rf X) a0 x1 x2 x3 x4 μ0) q) : o_Ev X (d + 6) mX12_viaFirst 0 [some (.ref (o_ad X a0)), some (.int x1), some (.int x2), some (.int x3), some (.int x4), none] [] μ0 (o_QI q) := by
  unfold fX12_viaFirst at h
  refine s_aload_n (i := 0) dX12_viaFirst_0 rfl rfl ?_
  refine s_iload_n (i := 1) dX12_viaFirst_1 rfl rfl ?_
  refine s_iload_n (i := 2) dX12_viaFirst_2 rfl rfl ?_
  refine s_iload_n (i := 3) dX12_viaFirst_3 rfl rfl ?_
  refine s_iload dX12_viaFirst_4 rfl ?_
  refine s_callVz (C := mX12_isWay) (As := [.int x1, .int x2, .int x3, .int x4]) (rest := []) (L0 := [some (.ref (o_ad X a0)), some (.int x1), some (.int x2), some (.int x3), some (.int x4)]) hX h0 clX12_370 dX12_viaFirst_6 rfl rfl (Nat.le_of_ble_eq_true rfl) (Nat.le_of_ble_eq_true rfl) (dnX12_isWay hX h0 (o_bdp h)) (fun r1 μ1 zr1 h => ?_)
  refine s_if_ne (tgt := 18) dX12_viaFirst_9 rfl (fun c1 => ?_) (fun c1 => ?_)
  · have h := o_if_f c1 h
    refine s_aload_n (i := 0) dX12_viaFirst_18 rfl rfl ?_
    refine s_iload_n (i := 2) dX12_viaFirst_19 rfl rfl ?_
    refine s_iload_n (i := 3) dX12_viaFirst_20 rfl rfl ?_
    refine s_iload dX12_viaFirst_21 rfl ?_
    refine s_callVu (C := mX12_laysVia) (As := [.int x2, .int x3, .int x4]) (rest := []) (L0 := [some (.ref (o_ad X a0)), some (.int x2), some (.int x3), some (.int x4), none, none, none]) hX h0 clX12_373 dX12_viaFirst_23 rfl rfl (Nat.le_of_ble_eq_true rfl) (Nat.le_of_ble_eq_true rfl) (dnX12_laysVia hX h0 (o_bdp h)) (fun _u μ2 h => ?_)
    refine s_aload_n (i := 0) dX12_viaFirst_26 rfl rfl ?_
    refine s_getR hX h0 flX12_47 rfl dX12_viaFirst_27 (fun (g1 : o_is X (o_rf X a0 24) (.inr (0, 6))) => ?_)
    refine s_iload_n (i := 1) dX12_viaFirst_30 rfl rfl ?_
    have hc := o_ck_c h
    have h := o_ck_k h
    refine s_ialdK g1 hc rfl dX12_viaFirst_31 ?_
    refine s_iconst dX12_viaFirst_32 kI_1 ?_
    refine s_icmp_ne (tgt := 42) dX12_viaFirst_33 rfl (fun c1 => ?_) (fun c1 => ?_)
    · have h := o_if_f c1 h
      refine s_iconst dX12_viaFirst_42 kI_0 ?_
      refine s_istore dX12_viaFirst_43 (Nat.le_of_ble_eq_true rfl) rfl ?_
      refine s_mask [true, true, false, true, false, true] (L' := [some (.ref (o_ad X a0)), some (.int x1), none, some (.int x3), none, some (.int 0)]) rfl ?_
      refine o_lp_ev (fun τ45 => [some (.ref (o_ad X a0)), some (.int x1), none, some (.int x3), none, some (.int τ45)]) (fun τ45 μ _K h kv ke45 => dnX12_viaFirst_s45 hX h0 h kv (fun τ45 μ3 h => ?_) (fun τ45 μ3 h => ?_)) o_fuel 0 μ2 (o_bdp h)
      · have h := o_if_t rfl (ke45 (97, τ45) μ3 (o_ne rfl) h)
        refine s_aload_n (i := 0) dX12_viaFirst_97 rfl rfl ?_
        refine s_iload dX12_viaFirst_98 rfl ?_
        refine s_callVi (C := mX12_gives) (As := [.int τ45]) (rest := []) (L0 := [some (.ref (o_ad X a0)), some (.int τ45)]) hX h0 clX12_91 dX12_viaFirst_100 rfl rfl (Nat.le_of_ble_eq_true rfl) (Nat.le_of_ble_eq_true rfl) (dnX12_gives hX h0 (o_bdp h)) (fun r2 μ4 h => ?_)
        exact s_ireturn rfl dX12_viaFirst_103 ⟨_, rfl, o_ret h⟩
      · have h := o_if_t rfl (o_if_f (o_ne rfl) (ke45 (110, τ45) μ3 (o_ne rfl) h))
        refine s_mask [true, false, false, false, false, false] (L' := [some (.ref (o_ad X a0)), none, none, none, none, none]) rfl ?_
        exact dnX12_viaFirst_j110 hX h0 h
    · have h := o_if_t c1 h
      refine s_aload_n (i := 0) dX12_viaFirst_36 rfl rfl ?_
      refine s_iload_n (i := 2) dX12_viaFirst_37 rfl rfl ?_
      refine s_callVi (C := mX12_gives) (As := [.int x2]) (rest := []) (L0 := [some (.ref (o_ad X a0)), some (.int x2)]) hX h0 clX12_91 dX12_viaFirst_38 rfl rfl (Nat.le_of_ble_eq_true rfl) (Nat.le_of_ble_eq_true rfl) (dnX12_gives hX h0 (o_bdp h)) (fun r3 μ5 h => ?_)
      exact s_ireturn rfl dX12_viaFirst_41 ⟨_, rfl, o_ret h⟩
  · have h := o_if_t c1 h
    refine s_aload_n (i := 0) dX12_viaFirst_12 rfl rfl ?_
    refine s_iconst dX12_viaFirst_13 kI_1 ?_
    refine s_callVi (C := mX12_refuse) (As := [.int 1]) (rest := []) (L0 := [some (.ref (o_ad X a0)), some (.int 1)]) hX h0 clX12_87 dX12_viaFirst_14 rfl rfl (Nat.le_of_ble_eq_true rfl) (Nat.le_of_ble_eq_true rfl) (dnX12_refuse hX h0 (o_bdp h)) (fun r4 μ6 h => ?_)
    exact s_ireturn rfl dX12_viaFirst_17 ⟨_, rfl, o_ret h⟩
