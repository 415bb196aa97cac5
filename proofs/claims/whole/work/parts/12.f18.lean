theorem dX12_wantWord_0 : decode cX12_wantWord 0 = .ok (.aload_n 0, 1) := by decide +kernel
theorem dX12_wantWord_1 : decode cX12_wantWord 1 = .ok (.aload_n 1, 1) := by decide +kernel
theorem dX12_wantWord_2 : decode cX12_wantWord 2 = .ok (.invokevirtual 172, 3) := by decide +kernel
theorem dX12_wantWord_5 : decode cX12_wantWord 5 = .ok (.iload_n 2, 1) := by decide +kernel
theorem dX12_wantWord_6 : decode cX12_wantWord 6 = .ok (.if_icmp .eq 9, 3) := by decide +kernel
theorem dX12_wantWord_9 : decode cX12_wantWord 9 = .ok (.aload_n 0, 1) := by decide +kernel
theorem dX12_wantWord_10 : decode cX12_wantWord 10 = .ok (.iconst 2, 1) := by decide +kernel
theorem dX12_wantWord_11 : decode cX12_wantWord 11 = .ok (.invokevirtual 169, 3) := by decide +kernel
theorem dX12_wantWord_14 : decode cX12_wantWord 14 = .ok (.ireturn, 1) := by decide +kernel
theorem dX12_wantWord_15 : decode cX12_wantWord 15 = .ok (.aload_n 0, 1) := by decide +kernel
theorem dX12_wantWord_16 : decode cX12_wantWord 16 = .ok (.invokevirtual 163, 3) := by decide +kernel
theorem dX12_wantWord_19 : decode cX12_wantWord 19 = .ok (.iconst 1, 1) := by decide +kernel
theorem dX12_wantWord_20 : decode cX12_wantWord 20 = .ok (.ireturn, 1) := by decide +kernel
noncomputable def fX12_wantWord (rf : Nat → Nat → Nat) (a0 : Nat) (x2 : Int32) (μ0 : o_Mem) : Option (Int32 × o_Mem) :=
  o_bd (fX12_inWords rf a0 μ0) fun r1 μ1 =>
  if r1 = x2 then (
    o_bd (fX12_ahead rf a0 μ1) fun _u μ2 =>
    some (1, μ2))
  else (
    o_bd (fX12_fails rf a0 2 μ1) fun r2 μ3 =>
    some (r2, μ3))
set_option maxRecDepth 20000 in
theorem dnX12_wantWord {X : o_Cx} (hX : o_ok X) {d : Nat} {a0 : Nat} {x2 : Int32} {μ0 : o_Mem} {q : Int32 → o_Mem → Prop} (h0 : o_is X a0 (.inl 12)) (h : o_Post (fX12_wantWord (o_rf X) a0 x2 μ0) q) : o_Ev X (d + 5) mX12_wantWord 0 [some (.ref (o_ad X a0)), some (.ref (o_aK X 1)), some (.int x2)] [] μ0 (o_QZ q) := by
  unfold fX12_wantWord at h
  refine s_aload_n (i := 0) dX12_wantWord_0 rfl rfl ?_
  refine s_aload_n (i := 1) dX12_wantWord_1 rfl rfl ?_
  refine s_callVi (C := mX12_inWords) (As := [.ref (o_aK X 1)]) (rest := []) (L0 := [some (.ref (o_ad X a0)), some (.ref (o_aK X 1)), none, none, none, none, none]) hX h0 clX12_172 dX12_wantWord_2 rfl rfl (Nat.le_of_ble_eq_true rfl) (Nat.le_of_ble_eq_true rfl) (dnX12_inWords hX h0 (o_bdp h)) (fun r1 μ1 h => ?_)
  refine s_iload_n (i := 2) dX12_wantWord_5 rfl rfl ?_
  refine s_icmp_eq (tgt := 15) dX12_wantWord_6 rfl (fun c1 => ?_) (fun c1 => ?_)
  · have h := o_if_t c1 h
    refine s_aload_n (i := 0) dX12_wantWord_15 rfl rfl ?_
    refine s_callVu (C := mX12_ahead) (As := []) (rest := []) (L0 := [some (.ref (o_ad X a0)), none]) hX h0 clX12_163 dX12_wantWord_16 rfl rfl (Nat.le_of_ble_eq_true rfl) (Nat.le_of_ble_eq_true rfl) (dnX12_ahead hX h0 (o_bdp h)) (fun _u μ2 h => ?_)
    refine s_iconst dX12_wantWord_19 kI_1 ?_
    exact s_zreturn rfl (Or.inr rfl) dX12_wantWord_20 ⟨_, rfl, (Or.inr rfl), o_ret h⟩
  · have h := o_if_f c1 h
    refine s_aload_n (i := 0) dX12_wantWord_9 rfl rfl ?_
    refine s_iconst dX12_wantWord_10 kI_2 ?_
    refine s_callVz (C := mX12_fails) (As := [.int 2]) (rest := []) (L0 := [some (.ref (o_ad X a0)), some (.int 2)]) hX h0 clX12_169 dX12_wantWord_11 rfl rfl (Nat.le_of_ble_eq_true rfl) (Nat.le_of_ble_eq_true rfl) (dnX12_fails hX h0 (o_bdp h)) (fun r2 μ3 zr2 h => ?_)
    exact s_zreturn rfl zr2 dX12_wantWord_14 ⟨_, rfl, zr2, o_ret h⟩
theorem dX12_number_0 : decode cX12_number 0 = .ok (.aload_n 0, 1) := by decide +kernel
theorem dX12_number_1 : decode cX12_number 1 = .ok (.getfield 132, 3) := by decide +kernel
theorem dX12_number_4 : decode cX12_number 4 = .ok (.iconst 3, 1) := by decide +kernel
theorem dX12_number_5 : decode cX12_number 5 = .ok (.if_icmp .eq 9, 3) := by decide +kernel
theorem dX12_number_8 : decode cX12_number 8 = .ok (.aload_n 0, 1) := by decide +kernel
theorem dX12_number_9 : decode cX12_number 9 = .ok (.iconst 2, 1) := by decide +kernel
theorem dX12_number_10 : decode cX12_number 10 = .ok (.invokevirtual 169, 3) := by decide +kernel
theorem dX12_number_13 : decode cX12_number 13 = .ok (.ireturn, 1) := by decide +kernel
theorem dX12_number_14 : decode cX12_number 14 = .ok (.aload_n 0, 1) := by decide +kernel
theorem dX12_number_15 : decode cX12_number 15 = .ok (.getfield 129, 3) := by decide +kernel
theorem dX12_number_18 : decode cX12_number 18 = .ok (.iload_n 2, 1) := by decide +kernel
theorem dX12_number_19 : decode cX12_number 19 = .ok (.if_icmp .lt 11, 3) := by decide +kernel
theorem dX12_number_22 : decode cX12_number 22 = .ok (.aload_n 0, 1) := by decide +kernel
theorem dX12_number_23 : decode cX12_number 23 = .ok (.getfield 129, 3) := by decide +kernel
theorem dX12_number_26 : decode cX12_number 26 = .ok (.iload_n 3, 1) := by decide +kernel
theorem dX12_number_27 : decode cX12_number 27 = .ok (.if_icmp .le 9, 3) := by decide +kernel
theorem dX12_number_30 : decode cX12_number 30 = .ok (.aload_n 0, 1) := by decide +kernel
theorem dX12_number_31 : decode cX12_number 31 = .ok (.iconst 4, 1) := by decide +kernel
theorem dX12_number_32 : decode cX12_number 32 = .ok (.invokevirtual 169, 3) := by decide +kernel
theorem dX12_number_35 : decode cX12_number 35 = .ok (.ireturn, 1) := by decide +kernel
theorem dX12_number_36 : decode cX12_number 36 = .ok (.aload_n 0, 1) := by decide +kernel
theorem dX12_number_37 : decode cX12_number 37 = .ok (.getfield 7, 3) := by decide +kernel
theorem dX12_number_40 : decode cX12_number 40 = .ok (.iload_n 1, 1) := by decide +kernel
theorem dX12_number_41 : decode cX12_number 41 = .ok (.aload_n 0, 1) := by decide +kernel
theorem dX12_number_42 : decode cX12_number 42 = .ok (.getfield 129, 3) := by decide +kernel
theorem dX12_number_45 : decode cX12_number 45 = .ok (.iastore, 1) := by decide +kernel
theorem dX12_number_46 : decode cX12_number 46 = .ok (.aload_n 0, 1) := by decide +kernel
theorem dX12_number_47 : decode cX12_number 47 = .ok (.invokevirtual 163, 3) := by decide +kernel
theorem dX12_number_50 : decode cX12_number 50 = .ok (.iconst 1, 1) := by decide +kernel
theorem dX12_number_51 : decode cX12_number 51 = .ok (.ireturn, 1) := by decide +kernel
noncomputable def fX12_number_j30 (rf : Nat → Nat → Nat) (a0 : Nat) (μ0 : o_Mem) : Option (Int32 × o_Mem) :=
  o_bd (fX12_fails rf a0 4 μ0) fun r1 μ1 =>
  some (r1, μ1)
noncomputable def fX12_number (rf : Nat → Nat → Nat) (a0 : Nat) (x1 : Int32) (x2 : Int32) (x3 : Int32) (μ0 : o_Mem) : Option (Int32 × o_Mem) :=
  if (μ0.1 a0 12) = 3 then (
    if (μ0.1 a0 15) < x2 then (
      fX12_number_j30 rf a0 μ0)
    else (
      if (μ0.1 a0 15) ≤ x3 then (
        o_ck (0 ≤ (x1).toInt ∧ (x1).toInt < 3756) <|
        o_seq (o_wI μ0 (rf a0 0) x1.toNatClampNeg (μ0.1 a0 15)) fun μ1 =>
        o_bd (fX12_ahead rf a0 μ1) fun _u μ2 =>
        some (1, μ2))
      else (
        fX12_number_j30 rf a0 μ0)))
  else (
    o_bd (fX12_fails rf a0 2 μ0) fun r1 μ3 =>
    some (r1, μ3))
set_option maxRecDepth 20000 in
theorem dnX12_number_j30 {X : o_Cx} (hX : o_ok X) {d : Nat} {a0 : Nat} {μ0 : o_Mem} {q : Int32 → o_Mem → Prop} (h0 : o_is X a0 (.inl 12)) (h : o_Post (fX12_number_j30 (o_rf X) a0 μ0) q) : o_Ev X (d + 2) mX12_number 30 [some (.ref (o_ad X a0)), none, none, none] [] μ0 (o_QZ q) := by
  unfold fX12_number_j30 at h
  refine s_aload_n (i := 0) dX12_number_30 rfl rfl ?_
  refine s_iconst dX12_number_31 kI_4 ?_
  refine s_callVz (C := mX12_fails) (As := [.int 4]) (rest := []) (L0 := [some (.ref (o_ad X a0)), some (.int 4)]) hX h0 clX12_169 dX12_number_32 rfl rfl (Nat.le_of_ble_eq_true rfl) (Nat.le_of_ble_eq_true rfl) (dnX12_fails hX h0 (o_bdp h)) (fun r1 μ1 zr1 h => ?_)
  exact s_zreturn rfl zr1 dX12_number_35 ⟨_, rfl, zr1, o_ret h⟩
set_option maxRecDepth 20000 in
theorem dnX12_number {X : o_Cx} (hX : o_ok X) {d : Nat} {a0 : Nat} {x1 : Int32} {x2 : Int32} {x3 : Int32} {μ0 : o_Mem} {q : Int32 → o_Mem → Prop} (h0 : o_is X a0 (.inl 12)) (h : o_Post (fX12_number (o_rf X) a0 x1 x2 x3 μ0) q) : o_Ev X (d + 2) mX12_number 0 [some (.ref (o_ad X a0)), some (.int x1), some (.int x2), some (.int x3)] [] μ0 (o_QZ q) := by
  unfold fX12_number at h
  refine s_aload_n (i := 0) dX12_number_0 rfl rfl ?_
  refine s_getI h0 flX12_132 rfl dX12_number_1 ?_
  refine s_iconst dX12_number_4 kI_3 ?_
  refine s_icmp_eq (tgt := 14) dX12_number_5 rfl (fun c1 => ?_) (fun c1 => ?_)
  · have h := o_if_t c1 h
    refine s_aload_n (i := 0) dX12_number_14 rfl rfl ?_
    refine s_getI h0 flX12_129 rfl dX12_number_15 ?_
    refine s_iload_n (i := 2) dX12_number_18 rfl rfl ?_
    refine s_icmp_lt (tgt := 30) dX12_number_19 rfl (fun c1 => ?_) (fun c1 => ?_)
    · have h := o_if_t c1 h
      refine s_mask [true, false, false, false] (L' := [some (.ref (o_ad X a0)), none, none, none]) rfl ?_
      exact dnX12_number_j30 hX h0 h
    · have h := o_if_f c1 h
      refine s_aload_n (i := 0) dX12_number_22 rfl rfl ?_
      refine s_getI h0 flX12_129 rfl dX12_number_23 ?_
      refine s_iload_n (i := 3) dX12_number_26 rfl rfl ?_
      refine s_icmp_le (tgt := 36) dX12_number_27 rfl (fun c1 => ?_) (fun c1 => ?_)
      · have h := o_if_t c1 h
        refine s_aload_n (i := 0) dX12_number_36 rfl rfl ?_
        refine s_getR hX h0 flX12_7 rfl dX12_number_37 (fun (g1 : o_is X (o_rf X a0 0) (.inr (0, 3756))) => ?_)
        refine s_iload_n (i := 1) dX12_number_40 rfl rfl ?_
        refine s_aload_n (i := 0) dX12_number_41 rfl rfl ?_
        refine s_getI h0 flX12_129 rfl dX12_number_42 ?_
        have hc := o_ck_c h
        have h := o_ck_k h
        refine s_iastK hX g1 hc rfl dX12_number_45 (o_gen h (fun μ1 h => ?_))
        refine s_aload_n (i := 0) dX12_number_46 rfl rfl ?_
        refine s_callVu (C := mX12_ahead) (As := []) (rest := []) (L0 := [some (.ref (o_ad X a0)), none]) hX h0 clX12_163 dX12_number_47 rfl rfl (Nat.le_of_ble_eq_true rfl) (Nat.le_of_ble_eq_true rfl) (dnX12_ahead hX h0 (o_bdp h)) (fun _u μ2 h => ?_)
        refine s_iconst dX12_number_50 kI_1 ?_
        exact s_zreturn rfl (Or.inr rfl) dX12_number_51 ⟨_, rfl, (Or.inr rfl), o_ret h⟩
      · have h := o_if_f c1 h
        refine s_mask [true, false, false, false] (L' := [some (.ref (o_ad X a0)), none, none, none]) rfl ?_
        exact dnX12_number_j30 hX h0 h
  · have h := o_if_f c1 h
    refine s_aload_n (i := 0) dX12_number_8 rfl rfl ?_
    refine s_iconst dX12_number_9 kI_2 ?_
    refine s_callVz (C := mX12_fails) (As := [.int 2]) (rest := []) (L0 := [some (.ref (o_ad X a0)), some (.int 2)]) hX h0 clX12_169 dX12_number_10 rfl rfl (Nat.le_of_ble_eq_true rfl) (Nat.le_of_ble_eq_true rfl) (dnX12_fails hX h0 (o_bdp h)) (fun r1 μ3 zr1 h => ?_)
    exact s_zreturn rfl zr1 dX12_number_13 ⟨_, rfl, zr1, o_ret h⟩
theorem dX12_isName_0 : decode cX12_isName 0 = .ok (.aload_n 0, 1) := by decide +kernel
theorem dX12_isName_1 : decode cX12_isName 1 = .ok (.getfield 132, 3) := by decide +kernel
theorem dX12_isName_4 : decode cX12_isName 4 = .ok (.iconst 2, 1) := by decide +kernel
theorem dX12_isName_5 : decode cX12_isName 5 = .ok (.if_icmp .ne 30, 3) := by decide +kernel
theorem dX12_isName_8 : decode cX12_isName 8 = .ok (.aload_n 0, 1) := by decide +kernel
theorem dX12_isName_9 : decode cX12_isName 9 = .ok (.getfield 120, 3) := by decide +kernel
theorem dX12_isName_12 : decode cX12_isName 12 = .ok (.aload_n 0, 1) := by decide +kernel
theorem dX12_isName_13 : decode cX12_isName 13 = .ok (.getfield 126, 3) := by decide +kernel
theorem dX12_isName_16 : decode cX12_isName 16 = .ok (.isub, 1) := by decide +kernel
theorem dX12_isName_17 : decode cX12_isName 17 = .ok (.bipush 8, 2) := by decide +kernel
theorem dX12_isName_19 : decode cX12_isName 19 = .ok (.if_icmp .gt 16, 3) := by decide +kernel
theorem dX12_isName_22 : decode cX12_isName 22 = .ok (.aload_n 0, 1) := by decide +kernel
theorem dX12_isName_23 : decode cX12_isName 23 = .ok (.aload_n 1, 1) := by decide +kernel
theorem dX12_isName_24 : decode cX12_isName 24 = .ok (.invokevirtual 172, 3) := by decide +kernel
theorem dX12_isName_27 : decode cX12_isName 27 = .ok (.iconst (-1), 1) := by decide +kernel
theorem dX12_isName_28 : decode cX12_isName 28 = .ok (.if_icmp .ne 7, 3) := by decide +kernel
theorem dX12_isName_31 : decode cX12_isName 31 = .ok (.iconst 1, 1) := by decide +kernel
theorem dX12_isName_32 : decode cX12_isName 32 = .ok (.goto 4, 3) := by decide +kernel
theorem dX12_isName_35 : decode cX12_isName 35 = .ok (.iconst 0, 1) := by decide +kernel
theorem dX12_isName_36 : decode cX12_isName 36 = .ok (.ireturn, 1) := by decide +kernel
noncomputable def fX12_isName (rf : Nat → Nat → Nat) (a0 : Nat) (μ0 : o_Mem) : Option (Int32 × o_Mem) :=
  if (μ0.1 a0 12) = 2 then (
    if 8 < ((μ0.1 a0 14) - (μ0.1 a0 13)) then (
      some (0, μ0))
    else (
      o_bd (fX12_inWords rf a0 μ0) fun r1 μ1 =>
      if r1 = (-1) then (
        some (1, μ1))
      else (
        some (0, μ1))))
  else (
    some (0, μ0))
set_option maxRecDepth 20000 in
theorem dnX12_isName {X : o_Cx} (hX : o_ok X) {d : Nat} {a0 : Nat} {μ0 : o_Mem} {q : Int32 → o_Mem → Prop} (h0 : o_is X a0 (.inl 12)) (h : o_Post (fX12_isName (o_rf X) a0 μ0) q) : o_Ev X (d + 5) mX12_isName 0 [some (.ref (o_ad X a0)), some (.ref (o_aK X 1))] [] μ0 (o_QZ q) := by
  unfold fX12_isName at h
  refine s_aload_n (i := 0) dX12_isName_0 rfl rfl ?_
  refine s_getI h0 flX12_132 rfl dX12_isName_1 ?_
  refine s_iconst dX12_isName_4 kI_2 ?_
  refine s_icmp_ne (tgt := 35) dX12_isName_5 rfl (fun c1 => ?_) (fun c1 => ?_)
  · have h := o_if_f c1 h
    refine s_iconst dX12_isName_35 kI_0 ?_
    exact s_zreturn rfl (Or.inl rfl) dX12_isName_36 ⟨_, rfl, (Or.inl rfl), o_ret h⟩
  · have h := o_if_t c1 h
    refine s_aload_n (i := 0) dX12_isName_8 rfl rfl ?_
    refine s_getI h0 flX12_120 rfl dX12_isName_9 ?_
    refine s_aload_n (i := 0) dX12_isName_12 rfl rfl ?_
    refine s_getI h0 flX12_126 rfl dX12_isName_13 ?_
    refine s_isub dX12_isName_16 ?_
    refine s_bipush dX12_isName_17 kB_8 ?_
    refine s_icmp_gt (tgt := 35) dX12_isName_19 rfl (fun c1 => ?_) (fun c1 => ?_)
    · have h := o_if_t c1 h
      refine s_iconst dX12_isName_35 kI_0 ?_
      exact s_zreturn rfl (Or.inl rfl) dX12_isName_36 ⟨_, rfl, (Or.inl rfl), o_ret h⟩
    · have h := o_if_f c1 h
      refine s_aload_n (i := 0) dX12_isName_22 rfl rfl ?_
      refine s_aload_n (i := 1) dX12_isName_23 rfl rfl ?_
      refine s_callVi (C := mX12_inWords) (As := [.ref (o_aK X 1)]) (rest := []) (L0 := [some (.ref (o_ad X a0)), some (.ref (o_aK X 1)), none, none, none, none, none]) hX h0 clX12_172 dX12_isName_24 rfl rfl (Nat.le_of_ble_eq_true rfl) (Nat.le_of_ble_eq_true rfl) (dnX12_inWords hX h0 (o_bdp h)) (fun r1 μ1 h => ?_)
      refine s_iconst dX12_isName_27 kI_m1 ?_
      refine s_icmp_ne (tgt := 35) dX12_isName_28 rfl (fun c1 => ?_) (fun c1 => ?_)
      · have h := o_if_f c1 h
        refine s_iconst dX12_isName_35 kI_0 ?_
        exact s_zreturn rfl (Or.inl rfl) dX12_isName_36 ⟨_, rfl, (Or.inl rfl), o_ret h⟩
      · have h := o_if_t c1 h
        refine s_iconst dX12_isName_31 kI_1 ?_
        refine s_goto (tgt := 36) dX12_isName_32 rfl ?_
        exact s_zreturn rfl (Or.inr rfl) dX12_isName_36 ⟨_, rfl, (Or.inr rfl), o_ret h⟩
theorem dX12_nameHere_0 : decode cX12_nameHere 0 = .ok (.lconst 0, 1) := by decide +kernel
theorem dX12_nameHere_1 : decode cX12_nameHere 1 = .ok (.lstore_n 1, 1) := by decide +kernel
theorem dX12_nameHere_2 : decode cX12_nameHere 2 = .ok (.aload_n 0, 1) := by decide +kernel
theorem dX12_nameHere_3 : decode cX12_nameHere 3 = .ok (.getfield 126, 3) := by decide +kernel
theorem dX12_nameHere_6 : decode cX12_nameHere 6 = .ok (.istore_n 3, 1) := by decide +kernel
theorem dX12_nameHere_7 : decode cX12_nameHere 7 = .ok (.iload_n 3, 1) := by decide +kernel
theorem dX12_nameHere_8 : decode cX12_nameHere 8 = .ok (.aload_n 0, 1) := by decide +kernel
theorem dX12_nameHere_9 : decode cX12_nameHere 9 = .ok (.getfield 120, 3) := by decide +kernel
theorem dX12_nameHere_12 : decode cX12_nameHere 12 = .ok (.if_icmp .ge 21, 3) := by decide +kernel
theorem dX12_nameHere_15 : decode cX12_nameHere 15 = .ok (.lload_n 1, 1) := by decide +kernel
theorem dX12_nameHere_16 : decode cX12_nameHere 16 = .ok (.bipush 8, 2) := by decide +kernel
theorem dX12_nameHere_18 : decode cX12_nameHere 18 = .ok (.lshl, 1) := by decide +kernel
theorem dX12_nameHere_19 : decode cX12_nameHere 19 = .ok (.aload_n 0, 1) := by decide +kernel
theorem dX12_nameHere_20 : decode cX12_nameHere 20 = .ok (.iload_n 3, 1) := by decide +kernel
theorem dX12_nameHere_21 : decode cX12_nameHere 21 = .ok (.invokevirtual 123, 3) := by decide +kernel
theorem dX12_nameHere_24 : decode cX12_nameHere 24 = .ok (.i2l, 1) := by decide +kernel
theorem dX12_nameHere_25 : decode cX12_nameHere 25 = .ok (.lor, 1) := by decide +kernel
theorem dX12_nameHere_26 : decode cX12_nameHere 26 = .ok (.lstore_n 1, 1) := by decide +kernel
theorem dX12_nameHere_27 : decode cX12_nameHere 27 = .ok (.iinc 3 1, 3) := by decide +kernel
theorem dX12_nameHere_30 : decode cX12_nameHere 30 = .ok (.goto (-23), 3) := by decide +kernel
theorem dX12_nameHere_33 : decode cX12_nameHere 33 = .ok (.lload_n 1, 1) := by decide +kernel
theorem dX12_nameHere_34 : decode cX12_nameHere 34 = .ok (.lreturn, 1) := by decide +kernel
noncomputable def fX12_nameHere_s7 (rf : Nat → Nat → Nat) (a0 : Nat) (τ7 : Int64 × Int32) (μ0 : o_Mem) : Option ((Nat × (Int64 × Int32)) × o_Mem) :=
  if (μ0.1 a0 14) ≤ τ7.2 then (
    some ((33, (τ7.1, 0)), μ0))
  else (
    o_bd (fX12_byteAt rf a0 τ7.2 μ0) fun r1 μ1 =>
    some ((7, (((τ7.1 <<< ((8 : Int32).toInt64 &&& 63)) ||| r1.toInt64), (τ7.2 + 1))), μ1))
noncomputable def fX12_nameHere (rf : Nat → Nat → Nat) (a0 : Nat) (μ0 : o_Mem) : Option (Int64 × o_Mem) :=
  o_bd (o_lp 7 (fX12_nameHere_s7 rf a0) o_fuel ((0 : Int64), (μ0.1 a0 13)) μ0) fun ex1 μ1 =>
  if ex1.1 = 33 then (
    some (ex1.2.1, μ1))
  else
    none
set_option maxRecDepth 20000 in
theorem dnX12_nameHere_s7 {X : o_Cx} (hX : o_ok X) {d : Nat} {a0 : Nat} {τ7 : Int64 × Int32} {μ0 : o_Mem} {K : (Nat × (Int64 × Int32)) → o_Mem → Prop} {Q : Option Value → o_Mem → Prop} (h0 : o_is X a0 (.inl 12)) (h : o_Post (fX12_nameHere_s7 (o_rf X) a0 τ7 μ0) K) (kh : ∀ (τ7 : Int64 × Int32) (μ : o_Mem), K (7, τ7) μ → o_Ev X (d + 1) mX12_nameHere 7 [some (.ref (o_ad X a0)), some (.long τ7.1), none, some (.int τ7.2)] [] μ Q) (k33 : ∀ (τ7 : Int64 × Int32) (μ : o_Mem), K (33, τ7) μ → o_Ev X (d + 1) mX12_nameHere 33 [none, some (.long τ7.1), none, none] [] μ Q) : o_Ev X (d + 1) mX12_nameHere 7 [some (.ref (o_ad X a0)), some (.long τ7.1), none, some (.int τ7.2)] [] μ0 Q := by
  unfold fX12_nameHere_s7 at h
  refine s_iload_n (i := 3) dX12_nameHere_7 rfl rfl ?_
  refine s_aload_n (i := 0) dX12_nameHere_8 rfl rfl ?_
  refine s_getI h0 flX12_120 rfl dX12_nameHere_9 ?_
  refine s_icmp_ge (tgt := 33) dX12_nameHere_12 rfl (fun c1 => ?_) (fun c1 => ?_)
  · have h := o_if_t c1 h
    refine s_mask [false, true, false, false] (L' := [none, some (.long τ7.1), none, none]) rfl ?_
    exact k33 (τ7.1, 0) _ (o_ret h)
  · have h := o_if_f c1 h
    refine s_lload_n (i := 1) dX12_nameHere_15 rfl rfl ?_
    refine s_bipush dX12_nameHere_16 kB_8 ?_
    refine s_lshl dX12_nameHere_18 ?_
    refine s_aload_n (i := 0) dX12_nameHere_19 rfl rfl ?_
    refine s_iload_n (i := 3) dX12_nameHere_20 rfl rfl ?_
    refine s_callVi (C := mX12_byteAt) (As := [.int τ7.2]) (rest := [.long (τ7.1 <<< ((8 : Int32).toInt64 &&& 63))]) (L0 := [some (.ref (o_ad X a0)), some (.int τ7.2)]) hX h0 clX12_123 dX12_nameHere_21 rfl rfl (Nat.le_of_ble_eq_true rfl) (Nat.le_of_ble_eq_true rfl) (dnX12_byteAt hX h0 (o_bdp h)) (fun r1 μ1 h => ?_)
    refine s_i2l dX12_nameHere_24 ?_
    refine s_lor dX12_nameHere_25 ?_
    refine s_lstore_n (i := 1) dX12_nameHere_26 rfl (Nat.le_of_ble_eq_true rfl) rfl ?_
    refine s_iinc (v := (τ7.2 + 1)) dX12_nameHere_27 rfl rfl (Nat.le_of_ble_eq_true rfl) rfl ?_
    refine s_goto (tgt := 7) dX12_nameHere_30 rfl ?_
    refine s_mask [true, true, false, true] (L' := [some (.ref (o_ad X a0)), some (.long ((τ7.1 <<< ((8 : Int32).toInt64 &&& 63)) ||| r1.toInt64)), none, some (.int (τ7.2 + 1))]) rfl ?_
    exact kh (((τ7.1 <<< ((8 : Int32).toInt64 &&& 63)) ||| r1.toInt64), (τ7.2 + 1)) _ (o_ret h)
set_option maxRecDepth 20000 in
theorem dnX12_nameHere {X : o_Cx} (hX : o_ok X) {d : Nat} {a0 : Nat} {μ0 : o_Mem} {q : Int64 → o_Mem → Prop} (h0 : o_is X a0 (.inl 12)) (h : o_Post (fX12_nameHere (o_rf X) a0 μ0) q) : o_Ev X (d + 1) mX12_nameHere 0 [some (.ref (o_ad X a0)), none, none, none] [] μ0 (o_QL q) := by
  unfold fX12_nameHere at h
  refine s_lconst (v := 0) dX12_nameHere_0 rfl ?_
  refine s_lstore_n (i := 1) dX12_nameHere_1 rfl (Nat.le_of_ble_eq_true rfl) rfl ?_
  refine s_aload_n (i := 0) dX12_nameHere_2 rfl rfl ?_
  refine s_getI h0 flX12_126 rfl dX12_nameHere_3 ?_
  refine s_istore_n (i := 3) dX12_nameHere_6 rfl (Nat.le_of_ble_eq_true rfl) rfl ?_
  refine s_mask [true, true, false, true] (L' := [some (.ref (o_ad X a0)), some (.long (0 : Int64)), none, some (.int (μ0.1 a0 13))]) rfl ?_
  refine o_lp_ev (fun τ7 => [some (.ref (o_ad X a0)), some (.long τ7.1), none, some (.int τ7.2)]) (fun τ7 μ _K h kv ke7 => dnX12_nameHere_s7 hX h0 h kv (fun τ7 μ1 h => ?_)) o_fuel ((0 : Int64), (μ0.1 a0 13)) μ0 (o_bdp h)
  · have h := o_if_t rfl (ke7 (33, τ7) μ1 (o_ne rfl) h)
    refine s_lload_n (i := 1) dX12_nameHere_33 rfl rfl ?_
    exact s_lreturn rfl dX12_nameHere_34 ⟨_, rfl, o_ret h⟩
theorem dX12_findHere_0 : decode cX12_findHere 0 = .ok (.iconst 0, 1) := by decide +kernel
theorem dX12_findHere_1 : decode cX12_findHere 1 = .ok (.istore_n 3, 1) := by decide +kernel
theorem dX12_findHere_2 : decode cX12_findHere 2 = .ok (.iload_n 3, 1) := by decide +kernel
theorem dX12_findHere_3 : decode cX12_findHere 3 = .ok (.iload_n 2, 1) := by decide +kernel
theorem dX12_findHere_4 : decode cX12_findHere 4 = .ok (.if_icmp .ge 27, 3) := by decide +kernel
theorem dX12_findHere_7 : decode cX12_findHere 7 = .ok (.aload_n 0, 1) := by decide +kernel
theorem dX12_findHere_8 : decode cX12_findHere 8 = .ok (.getfield 13, 3) := by decide +kernel
theorem dX12_findHere_11 : decode cX12_findHere 11 = .ok (.iload_n 1, 1) := by decide +kernel
theorem dX12_findHere_12 : decode cX12_findHere 12 = .ok (.iload_n 3, 1) := by decide +kernel
theorem dX12_findHere_13 : decode cX12_findHere 13 = .ok (.iadd, 1) := by decide +kernel
theorem dX12_findHere_14 : decode cX12_findHere 14 = .ok (.laload, 1) := by decide +kernel
theorem dX12_findHere_15 : decode cX12_findHere 15 = .ok (.aload_n 0, 1) := by decide +kernel
theorem dX12_findHere_16 : decode cX12_findHere 16 = .ok (.invokevirtual 176, 3) := by decide +kernel
theorem dX12_findHere_19 : decode cX12_findHere 19 = .ok (.lcmp, 1) := by decide +kernel
theorem dX12_findHere_20 : decode cX12_findHere 20 = .ok (.ifCond .ne 5, 3) := by decide +kernel
theorem dX12_findHere_23 : decode cX12_findHere 23 = .ok (.iload_n 3, 1) := by decide +kernel
theorem dX12_findHere_24 : decode cX12_findHere 24 = .ok (.ireturn, 1) := by decide +kernel
theorem dX12_findHere_25 : decode cX12_findHere 25 = .ok (.iinc 3 1, 3) := by decide +kernel
theorem dX12_findHere_28 : decode cX12_findHere 28 = .ok (.goto (-26), 3) := by decide +kernel
theorem dX12_findHere_31 : decode cX12_findHere 31 = .ok (.iconst (-1), 1) := by decide +kernel
theorem dX12_findHere_32 : decode cX12_findHere 32 = .ok (.ireturn, 1) := by decide +kernel
noncomputable def fX12_findHere_s2 (rf : Nat → Nat → Nat) (a0 : Nat) (x1 : Int32) (x2 : Int32) (τ2 : Int32) (μ0 : o_Mem) : Option ((Nat × (Int32)) × o_Mem) :=
  if x2 ≤ τ2 then (
    some ((31, 0), μ0))
  else (
    o_ck (0 ≤ ((x1 + τ2)).toInt ∧ ((x1 + τ2)).toInt < 96) <|
    o_bd (fX12_nameHere rf a0 μ0) fun r1 μ1 =>
    if (μ0.2 (rf a0 1) ((x1 + τ2)).toNatClampNeg) = r1 then (
      some ((23, τ2), μ1))
    else (
      some ((2, (τ2 + 1)), μ1)))
noncomputable def fX12_findHere (rf : Nat → Nat → Nat) (a0 : Nat) (x1 : Int32) (x2 : Int32) (μ0 : o_Mem) : Option (Int32 × o_Mem) :=
  o_bd (o_lp 2 (fX12_findHere_s2 rf a0 x1 x2) o_fuel (0 : Int32) μ0) fun ex1 μ1 =>
  if ex1.1 = 23 then (
    some (ex1.2, μ1))
  else
  if ex1.1 = 31 then (
    some ((-1), μ1))
  else
    none
set_option maxRecDepth 20000 in
theorem dnX12_findHere_s2 {X : o_Cx} (hX : o_ok X) {d : Nat} {a0 : Nat} {x1 : Int32} {x2 : Int32} {τ2 : Int32} {μ0 : o_Mem} {K : (Nat × (Int32)) → o_Mem → Prop} {Q : Option Value → o_Mem → Prop} (h0 : o_is X a0 (.inl 12)) (h : o_Post (fX12_findHere_s2 (o_rf X) a0 x1 x2 τ2 μ0) K) (kh : ∀ (τ2 : Int32) (μ : o_Mem), K (2, τ2) μ → o_Ev X (d + 2) mX12_findHere 2 [some (.ref (o_ad X a0)), some (.int x1), some (.int x2), some (.int τ2)] [] μ Q) (k23 : ∀ (τ2 : Int32) (μ : o_Mem), K (23, τ2) μ → o_Ev X (d + 2) mX12_findHere 23 [none, none, none, some (.int τ2)] [] μ Q) (k31 : ∀ (τ2 : Int32) (μ : o_Mem), K (31, τ2) μ → o_Ev X (d + 2) mX12_findHere 31 [none, none, none, none] [] μ Q) : o_Ev X (d + 2) mX12_findHere 2 [some (.ref (o_ad X a0)), some (.int x1), some (.int x2), some (.int τ2)] [] μ0 Q := by
  unfold fX12_findHere_s2 at h
  refine s_iload_n (i := 3) dX12_findHere_2 rfl rfl ?_
  refine s_iload_n (i := 2) dX12_findHere_3 rfl rfl ?_
  refine s_icmp_ge (tgt := 31) dX12_findHere_4 rfl (fun c1 => ?_) (fun c1 => ?_)
  · have h := o_if_t c1 h
    refine s_mask [false, false, false, false] (L' := [none, none, none, none]) rfl ?_
    exact k31 0 _ (o_ret h)
  · have h := o_if_f c1 h
    refine s_aload_n (i := 0) dX12_findHere_7 rfl rfl ?_
    refine s_getR hX h0 flX12_13 rfl dX12_findHere_8 (fun (g1 : o_is X (o_rf X a0 1) (.inr (2, 96))) => ?_)
    refine s_iload_n (i := 1) dX12_findHere_11 rfl rfl ?_
    refine s_iload_n (i := 3) dX12_findHere_12 rfl rfl ?_
    refine s_iadd dX12_findHere_13 ?_
    have hc := o_ck_c h
    have h := o_ck_k h
    refine s_laldK g1 hc rfl dX12_findHere_14 ?_
    refine s_aload_n (i := 0) dX12_findHere_15 rfl rfl ?_
    refine s_callVl (C := mX12_nameHere) (As := []) (rest := [.long (μ0.2 (o_rf X a0 1) ((x1 + τ2)).toNatClampNeg)]) (L0 := [some (.ref (o_ad X a0)), none, none, none]) hX h0 clX12_176 dX12_findHere_16 rfl rfl (Nat.le_of_ble_eq_true rfl) (Nat.le_of_ble_eq_true rfl) (dnX12_nameHere hX h0 (o_bdp h)) (fun r1 μ1 h => ?_)
    refine s_lif_ne (tgt := 25) dX12_findHere_19 dX12_findHere_20 rfl (fun c1 => ?_) (fun c1 => ?_)
    · have h := o_if_f c1 h
      refine s_iinc (v := (τ2 + 1)) dX12_findHere_25 rfl rfl (Nat.le_of_ble_eq_true rfl) rfl ?_
      refine s_goto (tgt := 2) dX12_findHere_28 rfl ?_
      refine s_mask [true, true, true, true] (L' := [some (.ref (o_ad X a0)), some (.int x1), some (.int x2), some (.int (τ2 + 1))]) rfl ?_
      exact kh (τ2 + 1) _ (o_ret h)
    · have h := o_if_t c1 h
      refine s_mask [false, false, false, true] (L' := [none, none, none, some (.int τ2)]) rfl ?_
      exact k23 τ2 _ (o_ret h)
set_option maxRecDepth 20000 in
theorem dnX12_findHere {X : o_Cx} (hX : o_ok X) {d : Nat} {a0 : Nat} {x1 : Int32} {x2 : Int32} {μ0 : o_Mem} {q : Int32 → o_Mem → Prop} (h0 : o_is X a0 (.inl 12)) (h : o_Post (fX12_findHere (o_rf X) a0 x1 x2 μ0) q) : o_Ev X (d + 2) mX12_findHere 0 [some (.ref (o_ad X a0)), some (.int x1), some (.int x2), none] [] μ0 (o_QI q) := by
  unfold fX12_findHere at h
  refine s_iconst dX12_findHere_0 kI_0 ?_
  refine s_istore_n (i := 3) dX12_findHere_1 rfl (Nat.le_of_ble_eq_true rfl) rfl ?_
  refine s_mask [true, true, true, true] (L' := [some (.ref (o_ad X a0)), some (.int x1), some (.int x2), some (.int 0)]) rfl ?_
  refine o_lp_ev (fun τ2 => [some (.ref (o_ad X a0)), some (.int x1), some (.int x2), some (.int τ2)]) (fun τ2 μ _K h kv ke2 => dnX12_findHere_s2 hX h0 h kv (fun τ2 μ1 h => ?_) (fun τ2 μ1 h => ?_)) o_fuel 0 μ0 (o_bdp h)
  · have h := o_if_t rfl (ke2 (23, τ2) μ1 (o_ne rfl) h)
    refine s_iload_n (i := 3) dX12_findHere_23 rfl rfl ?_
    exact s_ireturn rfl dX12_findHere_24 ⟨_, rfl, o_ret h⟩
  · have h := o_if_t rfl (o_if_f (o_ne rfl) (ke2 (31, τ2) μ1 (o_ne rfl) h))
    refine s_iconst dX12_findHere_31 kI_m1 ?_
    exact s_ireturn rfl dX12_findHere_32 ⟨_, rfl, o_ret h⟩
theorem dX12_fault_0 : decode cX12_fault 0 = .ok (.iload_n 1, 1) := by decide +kernel
theorem dX12_fault_1 : decode cX12_fault 1 = .ok (.ifCond .ne 10, 3) := by decide +kernel
theorem dX12_fault_4 : decode cX12_fault 4 = .ok (.aload_n 0, 1) := by decide +kernel
theorem dX12_fault_5 : decode cX12_fault 5 = .ok (.getfield 37, 3) := by decide +kernel
theorem dX12_fault_8 : decode cX12_fault 8 = .ok (.goto 16, 3) := by decide +kernel
theorem dX12_fault_11 : decode cX12_fault 11 = .ok (.iload_n 1, 1) := by decide +kernel
theorem dX12_fault_12 : decode cX12_fault 12 = .ok (.iconst 1, 1) := by decide +kernel
theorem dX12_fault_13 : decode cX12_fault 13 = .ok (.if_icmp .ne 10, 3) := by decide +kernel
theorem dX12_fault_16 : decode cX12_fault 16 = .ok (.aload_n 0, 1) := by decide +kernel
theorem dX12_fault_17 : decode cX12_fault 17 = .ok (.getfield 41, 3) := by decide +kernel
theorem dX12_fault_20 : decode cX12_fault 20 = .ok (.goto 4, 3) := by decide +kernel
theorem dX12_fault_23 : decode cX12_fault 23 = .ok (.iconst (-1), 1) := by decide +kernel
theorem dX12_fault_24 : decode cX12_fault 24 = .ok (.ireturn, 1) := by decide +kernel
noncomputable def fX12_fault (rf : Nat → Nat → Nat) (a0 : Nat) (x1 : Int32) (μ0 : o_Mem) : Option (Int32 × o_Mem) :=
  if x1 = 0 then (
    some ((μ0.1 a0 16), μ0))
  else (
    if x1 = 1 then (
      some ((μ0.1 a0 17), μ0))
    else (
      some ((-1), μ0)))
set_option maxRecDepth 20000 in
theorem dnX12_fault {X : o_Cx} (hX : o_ok X) {d : Nat} {a0 : Nat} {x1 : Int32} {μ0 : o_Mem} {q : Int32 → o_Mem → Prop} (h0 : o_is X a0 (.inl 12)) (h : o_Post (fX12_fault (o_rf X) a0 x1 μ0) q) : o_Ev X (d + 0) mX12_fault 0 [some (.ref (o_ad X a0)), some (.int x1)] [] μ0 (o_QI q) := by
  unfold fX12_fault at h
  refine s_iload_n (i := 1) dX12_fault_0 rfl rfl ?_
  refine s_if_ne (tgt := 11) dX12_fault_1 rfl (fun c1 => ?_) (fun c1 => ?_)
  · have h := o_if_f c1 h
    refine s_iload_n (i := 1) dX12_fault_11 rfl rfl ?_
    refine s_iconst dX12_fault_12 kI_1 ?_
    refine s_icmp_ne (tgt := 23) dX12_fault_13 rfl (fun c1 => ?_) (fun c1 => ?_)
    · have h := o_if_f c1 h
      refine s_iconst dX12_fault_23 kI_m1 ?_
      exact s_ireturn rfl dX12_fault_24 ⟨_, rfl, o_ret h⟩
    · have h := o_if_t c1 h
      refine s_aload_n (i := 0) dX12_fault_16 rfl rfl ?_
      refine s_getI h0 flX12_41 rfl dX12_fault_17 ?_
      refine s_goto (tgt := 24) dX12_fault_20 rfl ?_
      exact s_ireturn rfl dX12_fault_24 ⟨_, rfl, o_ret h⟩
  · have h := o_if_t c1 h
    refine s_aload_n (i := 0) dX12_fault_4 rfl rfl ?_
    refine s_getI h0 flX12_37 rfl dX12_fault_5 ?_
    refine s_goto (tgt := 24) dX12_fault_8 rfl ?_
    exact s_ireturn rfl dX12_fault_24 ⟨_, rfl, o_ret h⟩
theorem dX12_taken_0 : decode cX12_taken 0 = .ok (.aload_n 0, 1) := by decide +kernel
theorem dX12_taken_1 : decode cX12_taken 1 = .ok (.aload_n 0, 1) := by decide +kernel
theorem dX12_taken_2 : decode cX12_taken 2 = .ok (.getfield 157, 3) := by decide +kernel
theorem dX12_taken_5 : decode cX12_taken 5 = .ok (.putfield 37, 3) := by decide +kernel
theorem dX12_taken_8 : decode cX12_taken 8 = .ok (.aload_n 0, 1) := by decide +kernel
theorem dX12_taken_9 : decode cX12_taken 9 = .ok (.getfield 157, 3) := by decide +kernel
theorem dX12_taken_12 : decode cX12_taken 12 = .ok (.ifCond .le 12, 3) := by decide +kernel
theorem dX12_taken_15 : decode cX12_taken 15 = .ok (.aload_n 0, 1) := by decide +kernel
theorem dX12_taken_16 : decode cX12_taken 16 = .ok (.bipush 9, 2) := by decide +kernel
theorem dX12_taken_18 : decode cX12_taken 18 = .ok (.invokevirtual 87, 3) := by decide +kernel
theorem dX12_taken_21 : decode cX12_taken 21 = .ok (.goto 8, 3) := by decide +kernel
theorem dX12_taken_24 : decode cX12_taken 24 = .ok (.aload_n 0, 1) := by decide +kernel
theorem dX12_taken_25 : decode cX12_taken 25 = .ok (.iload_n 1, 1) := by decide +kernel
theorem dX12_taken_26 : decode cX12_taken 26 = .ok (.invokevirtual 91, 3) := by decide +kernel
theorem dX12_taken_29 : decode cX12_taken 29 = .ok (.ireturn, 1) := by decide +kernel
noncomputable def fX12_taken (rf : Nat → Nat → Nat) (a0 : Nat) (x1 : Int32) (μ0 : o_Mem) : Option (Int32 × o_Mem) :=
  o_seq (o_wI μ0 a0 16 (μ0.1 a0 18)) fun μ1 =>
  if (μ1.1 a0 18) ≤ 0 then (
    o_bd (fX12_gives rf a0 x1 μ1) fun r1 μ2 =>
    some (r1, μ2))
  else (
    o_bd (fX12_refuse rf a0 9 μ1) fun r2 μ3 =>
    some (r2, μ3))
set_option maxRecDepth 20000 in
theorem dnX12_taken {X : o_Cx} (hX : o_ok X) {d : Nat} {a0 : Nat} {x1 : Int32} {μ0 : o_Mem} {q : Int32 → o_Mem → Prop} (h0 : o_is X a0 (.inl 12)) (h : o_Post (fX12_taken (o_rf X) a0 x1 μ0) q) : o_Ev X (d + 1) mX12_taken 0 [some (.ref (o_ad X a0)), some (.int x1)] [] μ0 (o_QI q) := by
  unfold fX12_taken at h
  refine s_aload_n (i := 0) dX12_taken_0 rfl rfl ?_
  refine s_aload_n (i := 0) dX12_taken_1 rfl rfl ?_
  refine s_getI h0 flX12_157 rfl dX12_taken_2 ?_
  refine s_putI hX h0 fwX12_37 rfl dX12_taken_5 (o_gen h (fun μ1 h => ?_))
  refine s_aload_n (i := 0) dX12_taken_8 rfl rfl ?_
  refine s_getI h0 flX12_157 rfl dX12_taken_9 ?_
  refine s_if_le (tgt := 24) dX12_taken_12 rfl (fun c1 => ?_) (fun c1 => ?_)
  · have h := o_if_t c1 h
    refine s_aload_n (i := 0) dX12_taken_24 rfl rfl ?_
    refine s_iload_n (i := 1) dX12_taken_25 rfl rfl ?_
    refine s_callVi (C := mX12_gives) (As := [.int x1]) (rest := []) (L0 := [some (.ref (o_ad X a0)), some (.int x1)]) hX h0 clX12_91 dX12_taken_26 rfl rfl (Nat.le_of_ble_eq_true rfl) (Nat.le_of_ble_eq_true rfl) (dnX12_gives hX h0 (o_bdp h)) (fun r1 μ2 h => ?_)
    exact s_ireturn rfl dX12_taken_29 ⟨_, rfl, o_ret h⟩
  · have h := o_if_f c1 h
    refine s_aload_n (i := 0) dX12_taken_15 rfl rfl ?_
    refine s_bipush dX12_taken_16 kB_9 ?_
    refine s_callVi (C := mX12_refuse) (As := [.int 9]) (rest := []) (L0 := [some (.ref (o_ad X a0)), some (.int 9)]) hX h0 clX12_87 dX12_taken_18 rfl rfl (Nat.le_of_ble_eq_true rfl) (Nat.le_of_ble_eq_true rfl) (dnX12_refuse hX h0 (o_bdp h)) (fun r2 μ3 h => ?_)
    refine s_goto (tgt := 29) dX12_taken_21 rfl ?_
    exact s_ireturn rfl dX12_taken_29 ⟨_, rfl, o_ret h⟩
theorem dX12_isThere_0 : decode cX12_isThere 0 = .ok (.aload_n 0, 1) := by decide +kernel
theorem dX12_isThere_1 : decode cX12_isThere 1 = .ok (.ldc 180, 2) := by decide +kernel
theorem dX12_isThere_3 : decode cX12_isThere 3 = .ok (.invokevirtual 172, 3) := by decide +kernel
theorem dX12_isThere_6 : decode cX12_isThere 6 = .ok (.iload_n 1, 1) := by decide +kernel
theorem dX12_isThere_7 : decode cX12_isThere 7 = .ok (.if_icmp .eq 5, 3) := by decide +kernel
theorem dX12_isThere_10 : decode cX12_isThere 10 = .ok (.iconst 0, 1) := by decide +kernel
theorem dX12_isThere_11 : decode cX12_isThere 11 = .ok (.ireturn, 1) := by decide +kernel
theorem dX12_isThere_12 : decode cX12_isThere 12 = .ok (.aload_n 0, 1) := by decide +kernel
theorem dX12_isThere_13 : decode cX12_isThere 13 = .ok (.invokevirtual 163, 3) := by decide +kernel
theorem dX12_isThere_16 : decode cX12_isThere 16 = .ok (.iconst 1, 1) := by decide +kernel
theorem dX12_isThere_17 : decode cX12_isThere 17 = .ok (.ireturn, 1) := by decide +kernel
noncomputable def fX12_isThere (rf : Nat → Nat → Nat) (a0 : Nat) (x1 : Int32) (μ0 : o_Mem) : Option (Int32 × o_Mem) :=
  o_bd (fX12_inWords rf a0 μ0) fun r1 μ1 =>
  if r1 = x1 then (
    o_bd (fX12_ahead rf a0 μ1) fun _u μ2 =>
    some (1, μ2))
  else (
    some (0, μ1))
set_option maxRecDepth 20000 in
theorem dnX12_isThere {X : o_Cx} (hX : o_ok X) {d : Nat} {a0 : Nat} {x1 : Int32} {μ0 : o_Mem} {q : Int32 → o_Mem → Prop} (h0 : o_is X a0 (.inl 12)) (h : o_Post (fX12_isThere (o_rf X) a0 x1 μ0) q) : o_Ev X (d + 5) mX12_isThere 0 [some (.ref (o_ad X a0)), some (.int x1)] [] μ0 (o_QZ q) := by
  unfold fX12_isThere at h
  refine s_aload_n (i := 0) dX12_isThere_0 rfl rfl ?_
  refine s_ldcS1 rfl dX12_isThere_1 ?_
  refine s_callVi (C := mX12_inWords) (As := [.ref (o_aK X 1)]) (rest := []) (L0 := [some (.ref (o_ad X a0)), some (.ref (o_aK X 1)), none, none, none, none, none]) hX h0 clX12_172 dX12_isThere_3 rfl rfl (Nat.le_of_ble_eq_true rfl) (Nat.le_of_ble_eq_true rfl) (dnX12_inWords hX h0 (o_bdp h)) (fun r1 μ1 h => ?_)
  refine s_iload_n (i := 1) dX12_isThere_6 rfl rfl ?_
  refine s_icmp_eq (tgt := 12) dX12_isThere_7 rfl (fun c1 => ?_) (fun c1 => ?_)
  · have h := o_if_t c1 h
    refine s_aload_n (i := 0) dX12_isThere_12 rfl rfl ?_
    refine s_callVu (C := mX12_ahead) (As := []) (rest := []) (L0 := [some (.ref (o_ad X a0)), none]) hX h0 clX12_163 dX12_isThere_13 rfl rfl (Nat.le_of_ble_eq_true rfl) (Nat.le_of_ble_eq_true rfl) (dnX12_ahead hX h0 (o_bdp h)) (fun _u μ2 h => ?_)
    refine s_iconst dX12_isThere_16 kI_1 ?_
    exact s_zreturn rfl (Or.inr rfl) dX12_isThere_17 ⟨_, rfl, (Or.inr rfl), o_ret h⟩
  · have h := o_if_f c1 h
    refine s_iconst dX12_isThere_10 kI_0 ?_
    exact s_zreturn rfl (Or.inl rfl) dX12_isThere_11 ⟨_, rfl, (Or.inl rfl), o_ret h⟩
theorem dX12_newOne_0 : decode cX12_newOne 0 = .ok (.aload_n 0, 1) := by decide +kernel
theorem dX12_newOne_1 : decode cX12_newOne 1 = .ok (.getfield 7, 3) := by decide +kernel
theorem dX12_newOne_4 : decode cX12_newOne 4 = .ok (.sipush 2504, 3) := by decide +kernel
theorem dX12_newOne_7 : decode cX12_newOne 7 = .ok (.iload_n 1, 1) := by decide +kernel
theorem dX12_newOne_8 : decode cX12_newOne 8 = .ok (.iadd, 1) := by decide +kernel
theorem dX12_newOne_9 : decode cX12_newOne 9 = .ok (.iaload, 1) := by decide +kernel
theorem dX12_newOne_10 : decode cX12_newOne 10 = .ok (.iload_n 2, 1) := by decide +kernel
theorem dX12_newOne_11 : decode cX12_newOne 11 = .ok (.if_icmp .ne 10, 3) := by decide +kernel
theorem dX12_newOne_14 : decode cX12_newOne 14 = .ok (.aload_n 0, 1) := by decide +kernel
theorem dX12_newOne_15 : decode cX12_newOne 15 = .ok (.bipush 6, 2) := by decide +kernel
theorem dX12_newOne_17 : decode cX12_newOne 17 = .ok (.invokevirtual 169, 3) := by decide +kernel
theorem dX12_newOne_20 : decode cX12_newOne 20 = .ok (.ireturn, 1) := by decide +kernel
theorem dX12_newOne_21 : decode cX12_newOne 21 = .ok (.aload_n 0, 1) := by decide +kernel
theorem dX12_newOne_22 : decode cX12_newOne 22 = .ok (.invokevirtual 163, 3) := by decide +kernel
theorem dX12_newOne_25 : decode cX12_newOne 25 = .ok (.aload_n 0, 1) := by decide +kernel
theorem dX12_newOne_26 : decode cX12_newOne 26 = .ok (.ldc 180, 2) := by decide +kernel
theorem dX12_newOne_28 : decode cX12_newOne 28 = .ok (.invokevirtual 182, 3) := by decide +kernel
theorem dX12_newOne_31 : decode cX12_newOne 31 = .ok (.ifCond .ne 9, 3) := by decide +kernel
theorem dX12_newOne_34 : decode cX12_newOne 34 = .ok (.aload_n 0, 1) := by decide +kernel
theorem dX12_newOne_35 : decode cX12_newOne 35 = .ok (.iconst 2, 1) := by decide +kernel
theorem dX12_newOne_36 : decode cX12_newOne 36 = .ok (.invokevirtual 169, 3) := by decide +kernel
theorem dX12_newOne_39 : decode cX12_newOne 39 = .ok (.ireturn, 1) := by decide +kernel
theorem dX12_newOne_40 : decode cX12_newOne 40 = .ok (.aload_n 0, 1) := by decide +kernel
theorem dX12_newOne_41 : decode cX12_newOne 41 = .ok (.bipush 64, 2) := by decide +kernel
theorem dX12_newOne_43 : decode cX12_newOne 43 = .ok (.aload_n 0, 1) := by decide +kernel
theorem dX12_newOne_44 : decode cX12_newOne 44 = .ok (.getfield 7, 3) := by decide +kernel
theorem dX12_newOne_47 : decode cX12_newOne 47 = .ok (.sipush 2504, 3) := by decide +kernel
theorem dX12_newOne_50 : decode cX12_newOne 50 = .ok (.iaload, 1) := by decide +kernel
theorem dX12_newOne_51 : decode cX12_newOne 51 = .ok (.invokevirtual 186, 3) := by decide +kernel
theorem dX12_newOne_54 : decode cX12_newOne 54 = .ok (.iconst (-1), 1) := by decide +kernel
theorem dX12_newOne_55 : decode cX12_newOne 55 = .ok (.if_icmp .ne 39, 3) := by decide +kernel
theorem dX12_newOne_58 : decode cX12_newOne 58 = .ok (.aload_n 0, 1) := by decide +kernel
theorem dX12_newOne_59 : decode cX12_newOne 59 = .ok (.bipush 70, 2) := by decide +kernel
theorem dX12_newOne_61 : decode cX12_newOne 61 = .ok (.aload_n 0, 1) := by decide +kernel
theorem dX12_newOne_62 : decode cX12_newOne 62 = .ok (.getfield 7, 3) := by decide +kernel
theorem dX12_newOne_65 : decode cX12_newOne 65 = .ok (.sipush 2505, 3) := by decide +kernel
theorem dX12_newOne_68 : decode cX12_newOne 68 = .ok (.iaload, 1) := by decide +kernel
theorem dX12_newOne_69 : decode cX12_newOne 69 = .ok (.invokevirtual 186, 3) := by decide +kernel
theorem dX12_newOne_72 : decode cX12_newOne 72 = .ok (.iconst (-1), 1) := by decide +kernel
theorem dX12_newOne_73 : decode cX12_newOne 73 = .ok (.if_icmp .ne 21, 3) := by decide +kernel
theorem dX12_newOne_76 : decode cX12_newOne 76 = .ok (.aload_n 0, 1) := by decide +kernel
theorem dX12_newOne_77 : decode cX12_newOne 77 = .ok (.bipush 74, 2) := by decide +kernel
theorem dX12_newOne_79 : decode cX12_newOne 79 = .ok (.aload_n 0, 1) := by decide +kernel
theorem dX12_newOne_80 : decode cX12_newOne 80 = .ok (.getfield 7, 3) := by decide +kernel
theorem dX12_newOne_83 : decode cX12_newOne 83 = .ok (.sipush 2506, 3) := by decide +kernel
theorem dX12_newOne_86 : decode cX12_newOne 86 = .ok (.iaload, 1) := by decide +kernel
theorem dX12_newOne_87 : decode cX12_newOne 87 = .ok (.invokevirtual 186, 3) := by decide +kernel
theorem dX12_newOne_90 : decode cX12_newOne 90 = .ok (.iconst (-1), 1) := by decide +kernel
theorem dX12_newOne_91 : decode cX12_newOne 91 = .ok (.if_icmp .eq 9, 3) := by decide +kernel
theorem dX12_newOne_94 : decode cX12_newOne 94 = .ok (.aload_n 0, 1) := by decide +kernel
theorem dX12_newOne_95 : decode cX12_newOne 95 = .ok (.iconst 3, 1) := by decide +kernel
theorem dX12_newOne_96 : decode cX12_newOne 96 = .ok (.invokevirtual 169, 3) := by decide +kernel
theorem dX12_newOne_99 : decode cX12_newOne 99 = .ok (.ireturn, 1) := by decide +kernel
theorem dX12_newOne_100 : decode cX12_newOne 100 = .ok (.aload_n 0, 1) := by decide +kernel
theorem dX12_newOne_101 : decode cX12_newOne 101 = .ok (.getfield 13, 3) := by decide +kernel
theorem dX12_newOne_104 : decode cX12_newOne 104 = .ok (.bipush 64, 2) := by decide +kernel
theorem dX12_newOne_106 : decode cX12_newOne 106 = .ok (.iload_n 3, 1) := by decide +kernel
theorem dX12_newOne_107 : decode cX12_newOne 107 = .ok (.iadd, 1) := by decide +kernel
theorem dX12_newOne_108 : decode cX12_newOne 108 = .ok (.aload_n 0, 1) := by decide +kernel
theorem dX12_newOne_109 : decode cX12_newOne 109 = .ok (.getfield 7, 3) := by decide +kernel
theorem dX12_newOne_112 : decode cX12_newOne 112 = .ok (.sipush 2504, 3) := by decide +kernel
theorem dX12_newOne_115 : decode cX12_newOne 115 = .ok (.iload_n 1, 1) := by decide +kernel
theorem dX12_newOne_116 : decode cX12_newOne 116 = .ok (.iadd, 1) := by decide +kernel
theorem dX12_newOne_117 : decode cX12_newOne 117 = .ok (.iaload, 1) := by decide +kernel
theorem dX12_newOne_118 : decode cX12_newOne 118 = .ok (.iadd, 1) := by decide +kernel
theorem dX12_newOne_119 : decode cX12_newOne 119 = .ok (.aload_n 0, 1) := by decide +kernel
theorem dX12_newOne_120 : decode cX12_newOne 120 = .ok (.invokevirtual 176, 3) := by decide +kernel
theorem dX12_newOne_123 : decode cX12_newOne 123 = .ok (.lastore, 1) := by decide +kernel
theorem dX12_newOne_124 : decode cX12_newOne 124 = .ok (.aload_n 0, 1) := by decide +kernel
theorem dX12_newOne_125 : decode cX12_newOne 125 = .ok (.invokevirtual 163, 3) := by decide +kernel
theorem dX12_newOne_128 : decode cX12_newOne 128 = .ok (.iconst 1, 1) := by decide +kernel
theorem dX12_newOne_129 : decode cX12_newOne 129 = .ok (.ireturn, 1) := by decide +kernel
noncomputable def fX12_newOne_j94 (rf : Nat → Nat → Nat) (a0 : Nat) (μ0 : o_Mem) : Option (Int32 × o_Mem) :=
  o_bd (fX12_fails rf a0 3 μ0) fun r1 μ1 =>
  some (r1, μ1)
noncomputable def fX12_newOne (rf : Nat → Nat → Nat) (a0 : Nat) (x1 : Int32) (x2 : Int32) (x3 : Int32) (μ0 : o_Mem) : Option (Int32 × o_Mem) :=
  o_ck (0 ≤ ((2504 + x1)).toInt ∧ ((2504 + x1)).toInt < 3756) <|
  if (μ0.1 (rf a0 0) ((2504 + x1)).toNatClampNeg) = x2 then (
    o_bd (fX12_fails rf a0 6 μ0) fun r7 μ10 =>
    some (r7, μ10))
  else (
    o_bd (fX12_ahead rf a0 μ0) fun _u μ1 =>
    o_bd (fX12_isName rf a0 μ1) fun r1 μ2 =>
    if r1 = 0 then (
      o_bd (fX12_fails rf a0 2 μ2) fun r6 μ9 =>
      some (r6, μ9))
    else (
      o_bd (fX12_findHere rf a0 64 (μ2.1 (rf a0 0) 2504) μ2) fun r2 μ3 =>
      if r2 = (-1) then (
        o_bd (fX12_findHere rf a0 70 (μ3.1 (rf a0 0) 2505) μ3) fun r3 μ4 =>
        if r3 = (-1) then (
          o_bd (fX12_findHere rf a0 74 (μ4.1 (rf a0 0) 2506) μ4) fun r4 μ5 =>
          if r4 = (-1) then (
            o_ck (0 ≤ ((2504 + x1)).toInt ∧ ((2504 + x1)).toInt < 3756) <|
            o_bd (fX12_nameHere rf a0 μ5) fun r5 μ6 =>
            o_ck (0 ≤ (((64 + x3) + (μ5.1 (rf a0 0) ((2504 + x1)).toNatClampNeg))).toInt ∧ (((64 + x3) + (μ5.1 (rf a0 0) ((2504 + x1)).toNatClampNeg))).toInt < 96) <|
            o_seq (o_wL μ6 (rf a0 1) ((((64 + x3) + (μ5.1 (rf a0 0) ((2504 + x1)).toNatClampNeg))).toNatClampNeg) r5) fun μ7 =>
            o_bd (fX12_ahead rf a0 μ7) fun _u μ8 =>
            some (1, μ8))
          else (
            fX12_newOne_j94 rf a0 μ5))
        else (
          fX12_newOne_j94 rf a0 μ4))
      else (
        fX12_newOne_j94 rf a0 μ3)))
set_option maxRecDepth 20000 in
theorem dnX12_newOne_j94 {X : o_Cx} (hX : o_ok X) {d : Nat} {a0 : Nat} {μ0 : o_Mem} {q : Int32 → o_Mem → Prop} (h0 : o_is X a0 (.inl 12)) (h : o_Post (fX12_newOne_j94 (o_rf X) a0 μ0) q) : o_Ev X (d + 6) mX12_newOne 94 [some (.ref (o_ad X a0)), none, none, none] [] μ0 (o_QZ q) := by
  unfold fX12_newOne_j94 at h
  refine s_aload_n (i := 0) dX12_newOne_94 rfl rfl ?_
  refine s_iconst dX12_newOne_95 kI_3 ?_
  refine s_callVz (C := mX12_fails) (As := [.int 3]) (rest := []) (L0 := [some (.ref (o_ad X a0)), some (.int 3)]) hX h0 clX12_169 dX12_newOne_96 rfl rfl (Nat.le_of_ble_eq_true rfl) (Nat.le_of_ble_eq_true rfl) (dnX12_fails hX h0 (o_bdp h)) (fun r1 μ1 zr1 h => ?_)
  exact s_zreturn rfl zr1 dX12_newOne_99 ⟨_, rfl, zr1, o_ret h⟩
set_option maxRecDepth 20000 in
theorem dnX12_newOne {X : o_Cx} (hX : o_ok X) {d : Nat} {a0 : Nat} {x1 : Int32} {x2 : Int32} {x3 : Int32} {μ0 : o_Mem} {q : Int32 → o_Mem → Prop} (h0 : o_is X a0 (.inl 12)) (h : o_Post (fX12_newOne (o_rf X) a0 x1 x2 x3 μ0) q) : o_Ev X (d + 6) mX12_newOne 0 [some (.ref (o_ad X a0)), some (.int x1), some (.int x2), some (.int x3)] [] μ0 (o_QZ q) := by
  unfold fX12_newOne at h
  refine s_aload_n (i := 0) dX12_newOne_0 rfl rfl ?_
  refine s_getR hX h0 flX12_7 rfl dX12_newOne_1 (fun (g1 : o_is X (o_rf X a0 0) (.inr (0, 3756))) => ?_)
  refine s_sipush dX12_newOne_4 kS_2504 ?_
  refine s_iload_n (i := 1) dX12_newOne_7 rfl rfl ?_
  refine s_iadd dX12_newOne_8 ?_
  have hc := o_ck_c h
  have h := o_ck_k h
  refine s_ialdK g1 hc rfl dX12_newOne_9 ?_
  refine s_iload_n (i := 2) dX12_newOne_10 rfl rfl ?_
  refine s_icmp_ne (tgt := 21) dX12_newOne_11 rfl (fun c1 => ?_) (fun c1 => ?_)
  · have h := o_if_f c1 h
    refine s_aload_n (i := 0) dX12_newOne_21 rfl rfl ?_
    refine s_callVu (C := mX12_ahead) (As := []) (rest := []) (L0 := [some (.ref (o_ad X a0)), none]) hX h0 clX12_163 dX12_newOne_22 rfl rfl (Nat.le_of_ble_eq_true rfl) (Nat.le_of_ble_eq_true rfl) (dnX12_ahead hX h0 (o_bdp h)) (fun _u μ1 h => ?_)
    refine s_aload_n (i := 0) dX12_newOne_25 rfl rfl ?_
    refine s_ldcS1 rfl dX12_newOne_26 ?_
    refine s_callVz (C := mX12_isName) (As := [.ref (o_aK X 1)]) (rest := []) (L0 := [some (.ref (o_ad X a0)), some (.ref (o_aK X 1))]) hX h0 clX12_182 dX12_newOne_28 rfl rfl (Nat.le_of_ble_eq_true rfl) (Nat.le_of_ble_eq_true rfl) (dnX12_isName hX h0 (o_bdp h)) (fun r1 μ2 zr1 h => ?_)
    refine s_if_ne (tgt := 40) dX12_newOne_31 rfl (fun c1 => ?_) (fun c1 => ?_)
    · have h := o_if_f c1 h
      refine s_aload_n (i := 0) dX12_newOne_40 rfl rfl ?_
      refine s_bipush dX12_newOne_41 kB_64 ?_
      refine s_aload_n (i := 0) dX12_newOne_43 rfl rfl ?_
      refine s_getR hX h0 flX12_7 rfl dX12_newOne_44 (fun (g2 : o_is X (o_rf X a0 0) (.inr (0, 3756))) => ?_)
      refine s_sipush dX12_newOne_47 kS_2504 ?_
      refine s_ialdK g2 ⟨by decide, by decide⟩ kN_2504 dX12_newOne_50 ?_
      refine s_callVi (C := mX12_findHere) (As := [.int 64, .int (μ2.1 (o_rf X a0 0) 2504)]) (rest := []) (L0 := [some (.ref (o_ad X a0)), some (.int 64), some (.int (μ2.1 (o_rf X a0 0) 2504)), none]) hX h0 clX12_186 dX12_newOne_51 rfl rfl (Nat.le_of_ble_eq_true rfl) (Nat.le_of_ble_eq_true rfl) (dnX12_findHere hX h0 (o_bdp h)) (fun r2 μ3 h => ?_)
      refine s_iconst dX12_newOne_54 kI_m1 ?_
      refine s_icmp_ne (tgt := 94) dX12_newOne_55 rfl (fun c1 => ?_) (fun c1 => ?_)
      · have h := o_if_f c1 h
        refine s_mask [true, false, false, false] (L' := [some (.ref (o_ad X a0)), none, none, none]) rfl ?_
        exact dnX12_newOne_j94 hX h0 h
      · have h := o_if_t c1 h
        refine s_aload_n (i := 0) dX12_newOne_58 rfl rfl ?_
        refine s_bipush dX12_newOne_59 kB_70 ?_
        refine s_aload_n (i := 0) dX12_newOne_61 rfl rfl ?_
        refine s_getR hX h0 flX12_7 rfl dX12_newOne_62 (fun (g3 : o_is X (o_rf X a0 0) (.inr (0, 3756))) => ?_)
        refine s_sipush dX12_newOne_65 kS_2505 ?_
        refine s_ialdK g3 ⟨by decide, by decide⟩ kN_2505 dX12_newOne_68 ?_
        refine s_callVi (C := mX12_findHere) (As := [.int 70, .int (μ3.1 (o_rf X a0 0) 2505)]) (rest := []) (L0 := [some (.ref (o_ad X a0)), some (.int 70), some (.int (μ3.1 (o_rf X a0 0) 2505)), none]) hX h0 clX12_186 dX12_newOne_69 rfl rfl (Nat.le_of_ble_eq_true rfl) (Nat.le_of_ble_eq_true rfl) (dnX12_findHere hX h0 (o_bdp h)) (fun r3 μ4 h => ?_)
        refine s_iconst dX12_newOne_72 kI_m1 ?_
        refine s_icmp_ne (tgt := 94) dX12_newOne_73 rfl (fun c1 => ?_) (fun c1 => ?_)
        · have h := o_if_f c1 h
          refine s_mask [true, false, false, false] (L' := [some (.ref (o_ad X a0)), none, none, none]) rfl ?_
          exact dnX12_newOne_j94 hX h0 h
        · have h := o_if_t c1 h
          refine s_aload_n (i := 0) dX12_newOne_76 rfl rfl ?_
          refine s_bipush dX12_newOne_77 kB_74 ?_
          refine s_aload_n (i := 0) dX12_newOne_79 rfl rfl ?_
          refine s_getR hX h0 flX12_7 rfl dX12_newOne_80 (fun (g4 : o_is X (o_rf X a0 0) (.inr (0, 3756))) => ?_)
          refine s_sipush dX12_newOne_83 kS_2506 ?_
          refine s_ialdK g4 ⟨by decide, by decide⟩ kN_2506 dX12_newOne_86 ?_
          refine s_callVi (C := mX12_findHere) (As := [.int 74, .int (μ4.1 (o_rf X a0 0) 2506)]) (rest := []) (L0 := [some (.ref (o_ad X a0)), some (.int 74), some (.int (μ4.1 (o_rf X a0 0) 2506)), none]) hX h0 clX12_186 dX12_newOne_87 rfl rfl (Nat.le_of_ble_eq_true rfl) (Nat.le_of_ble_eq_true rfl) (dnX12_findHere hX h0 (o_bdp h)) (fun r4 μ5 h => ?_)
          refine s_iconst dX12_newOne_90 kI_m1 ?_
          refine s_icmp_eq (tgt := 100) dX12_newOne_91 rfl (fun c1 => ?_) (fun c1 => ?_)
          · have h := o_if_t c1 h
            refine s_aload_n (i := 0) dX12_newOne_100 rfl rfl ?_
            refine s_getR hX h0 flX12_13 rfl dX12_newOne_101 (fun (g5 : o_is X (o_rf X a0 1) (.inr (2, 96))) => ?_)
            refine s_bipush dX12_newOne_104 kB_64 ?_
            refine s_iload_n (i := 3) dX12_newOne_106 rfl rfl ?_
            refine s_iadd dX12_newOne_107 ?_
            refine s_aload_n (i := 0) dX12_newOne_108 rfl rfl ?_
            refine s_getR hX h0 flX12_7 rfl dX12_newOne_109 (fun (g6 : o_is X (o_rf X a0 0) (.inr (0, 3756))) => ?_)
            refine s_sipush dX12_newOne_112 kS_2504 ?_
            refine s_iload_n (i := 1) dX12_newOne_115 rfl rfl ?_
            refine s_iadd dX12_newOne_116 ?_
            have hc := o_ck_c h
            have h := o_ck_k h
            refine s_ialdK g6 hc rfl dX12_newOne_117 ?_
            refine s_iadd dX12_newOne_118 ?_
            refine s_aload_n (i := 0) dX12_newOne_119 rfl rfl ?_
            refine s_callVl (C := mX12_nameHere) (As := []) (rest := [.int ((64 + x3) + (μ5.1 (o_rf X a0 0) ((2504 + x1)).toNatClampNeg)), .ref (o_ad X (o_rf X a0 1))]) (L0 := [some (.ref (o_ad X a0)), none, none, none]) hX h0 clX12_176 dX12_newOne_120 rfl rfl (Nat.le_of_ble_eq_true rfl) (Nat.le_of_ble_eq_true rfl) (dnX12_nameHere hX h0 (o_bdp h)) (fun r5 μ6 h => ?_)
            have hc := o_ck_c h
            have h := o_ck_k h
            refine s_lastK hX g5 hc rfl dX12_newOne_123 (o_gen h (fun μ7 h => ?_))
            refine s_aload_n (i := 0) dX12_newOne_124 rfl rfl ?_
            refine s_callVu (C := mX12_ahead) (As := []) (rest := []) (L0 := [some (.ref (o_ad X a0)), none]) hX h0 clX12_163 dX12_newOne_125 rfl rfl (Nat.le_of_ble_eq_true rfl) (Nat.le_of_ble_eq_true rfl) (dnX12_ahead hX h0 (o_bdp h)) (fun _u μ8 h => ?_)
            refine s_iconst dX12_newOne_128 kI_1 ?_
            exact s_zreturn rfl (Or.inr rfl) dX12_newOne_129 ⟨_, rfl, (Or.inr rfl), o_ret h⟩
          · have h := o_if_f c1 h
            refine s_mask [true, false, false, false] (L' := [some (.ref (o_ad X a0)), none, none, none]) rfl ?_
            exact dnX12_newOne_j94 hX h0 h
    · have h := o_if_t c1 h
      refine s_aload_n (i := 0) dX12_newOne_34 rfl rfl ?_
      refine s_iconst dX12_newOne_35 kI_2 ?_
      refine s_callVz (C := mX12_fails) (As := [.int 2]) (rest := []) (L0 := [some (.ref (o_ad X a0)), some (.int 2)]) hX h0 clX12_169 dX12_newOne_36 rfl rfl (Nat.le_of_ble_eq_true rfl) (Nat.le_of_ble_eq_true rfl) (dnX12_fails hX h0 (o_bdp h)) (fun r6 μ9 zr6 h => ?_)
      exact s_zreturn rfl zr6 dX12_newOne_39 ⟨_, rfl, zr6, o_ret h⟩
  · have h := o_if_t c1 h
    refine s_aload_n (i := 0) dX12_newOne_14 rfl rfl ?_
    refine s_bipush dX12_newOne_15 kB_6 ?_
    refine s_callVz (C := mX12_fails) (As := [.int 6]) (rest := []) (L0 := [some (.ref (o_ad X a0)), some (.int 6)]) hX h0 clX12_169 dX12_newOne_17 rfl rfl (Nat.le_of_ble_eq_true rfl) (Nat.le_of_ble_eq_true rfl) (dnX12_fails hX h0 (o_bdp h)) (fun r7 μ10 zr7 h => ?_)
    exact s_zreturn rfl zr7 dX12_newOne_20 ⟨_, rfl, zr7, o_ret h⟩
theorem dX12_oldOne_0 : decode cX12_oldOne 0 = .ok (.aload_n 0, 1) := by decide +kernel
theorem dX12_oldOne_1 : decode cX12_oldOne 1 = .ok (.ldc 180, 2) := by decide +kernel
theorem dX12_oldOne_3 : decode cX12_oldOne 3 = .ok (.invokevirtual 182, 3) := by decide +kernel
theorem dX12_oldOne_6 : decode cX12_oldOne 6 = .ok (.ifCond .ne 9, 3) := by decide +kernel
theorem dX12_oldOne_9 : decode cX12_oldOne 9 = .ok (.aload_n 0, 1) := by decide +kernel
theorem dX12_oldOne_10 : decode cX12_oldOne 10 = .ok (.iconst 2, 1) := by decide +kernel
theorem dX12_oldOne_11 : decode cX12_oldOne 11 = .ok (.invokevirtual 169, 3) := by decide +kernel
theorem dX12_oldOne_14 : decode cX12_oldOne 14 = .ok (.ireturn, 1) := by decide +kernel
theorem dX12_oldOne_15 : decode cX12_oldOne 15 = .ok (.aload_n 0, 1) := by decide +kernel
theorem dX12_oldOne_16 : decode cX12_oldOne 16 = .ok (.getfield 7, 3) := by decide +kernel
theorem dX12_oldOne_19 : decode cX12_oldOne 19 = .ok (.iload_n 3, 1) := by decide +kernel
theorem dX12_oldOne_20 : decode cX12_oldOne 20 = .ok (.aload_n 0, 1) := by decide +kernel
theorem dX12_oldOne_21 : decode cX12_oldOne 21 = .ok (.iload_n 1, 1) := by decide +kernel
theorem dX12_oldOne_22 : decode cX12_oldOne 22 = .ok (.iload_n 2, 1) := by decide +kernel
theorem dX12_oldOne_23 : decode cX12_oldOne 23 = .ok (.invokevirtual 186, 3) := by decide +kernel
theorem dX12_oldOne_26 : decode cX12_oldOne 26 = .ok (.iastore, 1) := by decide +kernel
theorem dX12_oldOne_27 : decode cX12_oldOne 27 = .ok (.aload_n 0, 1) := by decide +kernel
theorem dX12_oldOne_28 : decode cX12_oldOne 28 = .ok (.getfield 7, 3) := by decide +kernel
theorem dX12_oldOne_31 : decode cX12_oldOne 31 = .ok (.iload_n 3, 1) := by decide +kernel
theorem dX12_oldOne_32 : decode cX12_oldOne 32 = .ok (.iaload, 1) := by decide +kernel
theorem dX12_oldOne_33 : decode cX12_oldOne 33 = .ok (.iconst (-1), 1) := by decide +kernel
theorem dX12_oldOne_34 : decode cX12_oldOne 34 = .ok (.if_icmp .ne 9, 3) := by decide +kernel
theorem dX12_oldOne_37 : decode cX12_oldOne 37 = .ok (.aload_n 0, 1) := by decide +kernel
theorem dX12_oldOne_38 : decode cX12_oldOne 38 = .ok (.iconst 3, 1) := by decide +kernel
theorem dX12_oldOne_39 : decode cX12_oldOne 39 = .ok (.invokevirtual 169, 3) := by decide +kernel
theorem dX12_oldOne_42 : decode cX12_oldOne 42 = .ok (.ireturn, 1) := by decide +kernel
theorem dX12_oldOne_43 : decode cX12_oldOne 43 = .ok (.aload_n 0, 1) := by decide +kernel
theorem dX12_oldOne_44 : decode cX12_oldOne 44 = .ok (.invokevirtual 163, 3) := by decide +kernel
theorem dX12_oldOne_47 : decode cX12_oldOne 47 = .ok (.iconst 1, 1) := by decide +kernel
theorem dX12_oldOne_48 : decode cX12_oldOne 48 = .ok (.ireturn, 1) := by decide +kernel
noncomputable def fX12_oldOne (rf : Nat → Nat → Nat) (a0 : Nat) (x1 : Int32) (x2 : Int32) (x3 : Int32) (μ0 : o_Mem) : Option (Int32 × o_Mem) :=
  o_bd (fX12_isName rf a0 μ0) fun r1 μ1 =>
  if r1 = 0 then (
    o_bd (fX12_fails rf a0 2 μ1) fun r4 μ6 =>
    some (r4, μ6))
  else (
    o_bd (fX12_findHere rf a0 x1 x2 μ1) fun r2 μ2 =>
    o_ck (0 ≤ (x3).toInt ∧ (x3).toInt < 3756) <|
    o_seq (o_wI μ2 (rf a0 0) x3.toNatClampNeg r2) fun μ3 =>
    o_ck (0 ≤ (x3).toInt ∧ (x3).toInt < 3756) <|
    if (μ3.1 (rf a0 0) x3.toNatClampNeg) = (-1) then (
      o_bd (fX12_fails rf a0 3 μ3) fun r3 μ5 =>
      some (r3, μ5))
    else (
      o_bd (fX12_ahead rf a0 μ3) fun _u μ4 =>
      some (1, μ4)))
set_option maxRecDepth 20000 in
theorem dnX12_oldOne {X : o_Cx} (hX : o_ok X) {d : Nat} {a0 : Nat} {x1 : Int32} {x2 : Int32} {x3 : Int32} {μ0 : o_Mem} {q : Int32 → o_Mem → Prop} (h0 : o_is X a0 (.inl 12)) (h : o_Post (fX12_oldOne (o_rf X) a0 x1 x2 x3 μ0) q) : o_Ev X (d + 6) mX12_oldOne 0 [some (.ref (o_ad X a0)), some (.int x1), some (.int x2), some (.int x3)] [] μ0 (o_QZ q) := by
  unfold fX12_oldOne at h
  refine s_aload_n (i := 0) dX12_oldOne_0 rfl rfl ?_
  refine s_ldcS1 rfl dX12_oldOne_1 ?_
  refine s_callVz (C := mX12_isName) (As := [.ref (o_aK X 1)]) (rest := []) (L0 := [some (.ref (o_ad X a0)), some (.ref (o_aK X 1))]) hX h0 clX12_182 dX12_oldOne_3 rfl rfl (Nat.le_of_ble_eq_true rfl) (Nat.le_of_ble_eq_true rfl) (dnX12_isName hX h0 (o_bdp h)) (fun r1 μ1 zr1 h => ?_)
  refine s_if_ne (tgt := 15) dX12_oldOne_6 rfl (fun c1 => ?_) (fun c1 => ?_)
  · have h := o_if_f c1 h
    refine s_aload_n (i := 0) dX12_oldOne_15 rfl rfl ?_
    refine s_getR hX h0 flX12_7 rfl dX12_oldOne_16 (fun (g1 : o_is X (o_rf X a0 0) (.inr (0, 3756))) => ?_)
    refine s_iload_n (i := 3) dX12_oldOne_19 rfl rfl ?_
    refine s_aload_n (i := 0) dX12_oldOne_20 rfl rfl ?_
    refine s_iload_n (i := 1) dX12_oldOne_21 rfl rfl ?_
    refine s_iload_n (i := 2) dX12_oldOne_22 rfl rfl ?_
    refine s_callVi (C := mX12_findHere) (As := [.int x1, .int x2]) (rest := [.int x3, .ref (o_ad X (o_rf X a0 0))]) (L0 := [some (.ref (o_ad X a0)), some (.int x1), some (.int x2), none]) hX h0 clX12_186 dX12_oldOne_23 rfl rfl (Nat.le_of_ble_eq_true rfl) (Nat.le_of_ble_eq_true rfl) (dnX12_findHere hX h0 (o_bdp h)) (fun r2 μ2 h => ?_)
    have hc := o_ck_c h
    have h := o_ck_k h
    refine s_iastK hX g1 hc rfl dX12_oldOne_26 (o_gen h (fun μ3 h => ?_))
    refine s_aload_n (i := 0) dX12_oldOne_27 rfl rfl ?_
    refine s_getR hX h0 flX12_7 rfl dX12_oldOne_28 (fun (g2 : o_is X (o_rf X a0 0) (.inr (0, 3756))) => ?_)
    refine s_iload_n (i := 3) dX12_oldOne_31 rfl rfl ?_
    have hc := o_ck_c h
    have h := o_ck_k h
    refine s_ialdK g2 hc rfl dX12_oldOne_32 ?_
    refine s_iconst dX12_oldOne_33 kI_m1 ?_
    refine s_icmp_ne (tgt := 43) dX12_oldOne_34 rfl (fun c1 => ?_) (fun c1 => ?_)
    · have h := o_if_f c1 h
      refine s_aload_n (i := 0) dX12_oldOne_43 rfl rfl ?_
      refine s_callVu (C := mX12_ahead) (As := []) (rest := []) (L0 := [some (.ref (o_ad X a0)), none]) hX h0 clX12_163 dX12_oldOne_44 rfl rfl (Nat.le_of_ble_eq_true rfl) (Nat.le_of_ble_eq_true rfl) (dnX12_ahead hX h0 (o_bdp h)) (fun _u μ4 h => ?_)
      refine s_iconst dX12_oldOne_47 kI_1 ?_
      exact s_zreturn rfl (Or.inr rfl) dX12_oldOne_48 ⟨_, rfl, (Or.inr rfl), o_ret h⟩
    · have h := o_if_t c1 h
      refine s_aload_n (i := 0) dX12_oldOne_37 rfl rfl ?_
      refine s_iconst dX12_oldOne_38 kI_3 ?_
      refine s_callVz (C := mX12_fails) (As := [.int 3]) (rest := []) (L0 := [some (.ref (o_ad X a0)), some (.int 3)]) hX h0 clX12_169 dX12_oldOne_39 rfl rfl (Nat.le_of_ble_eq_true rfl) (Nat.le_of_ble_eq_true rfl) (dnX12_fails hX h0 (o_bdp h)) (fun r3 μ5 zr3 h => ?_)
      exact s_zreturn rfl zr3 dX12_oldOne_42 ⟨_, rfl, zr3, o_ret h⟩
  · have h := o_if_t c1 h
    refine s_aload_n (i := 0) dX12_oldOne_9 rfl rfl ?_
    refine s_iconst dX12_oldOne_10 kI_2 ?_
    refine s_callVz (C := mX12_fails) (As := [.int 2]) (rest := []) (L0 := [some (.ref (o_ad X a0)), some (.int 2)]) hX h0 clX12_169 dX12_oldOne_11 rfl rfl (Nat.le_of_ble_eq_true rfl) (Nat.le_of_ble_eq_true rfl) (dnX12_fails hX h0 (o_bdp h)) (fun r4 μ6 zr4 h => ?_)
    exact s_zreturn rfl zr4 dX12_oldOne_14 ⟨_, rfl, zr4, o_ret h⟩
theorem dX12_strikeTo_0 : decode cX12_strikeTo 0 = .ok (.aload_n 0, 1) := by decide +kernel
theorem dX12_strikeTo_1 : decode cX12_strikeTo 1 = .ok (.bipush 64, 2) := by decide +kernel
theorem dX12_strikeTo_3 : decode cX12_strikeTo 3 = .ok (.aload_n 0, 1) := by decide +kernel
theorem dX12_strikeTo_4 : decode cX12_strikeTo 4 = .ok (.getfield 7, 3) := by decide +kernel
theorem dX12_strikeTo_7 : decode cX12_strikeTo 7 = .ok (.sipush 2504, 3) := by decide +kernel
theorem dX12_strikeTo_10 : decode cX12_strikeTo 10 = .ok (.iaload, 1) := by decide +kernel
theorem dX12_strikeTo_11 : decode cX12_strikeTo 11 = .ok (.iload_n 1, 1) := by decide +kernel
theorem dX12_strikeTo_12 : decode cX12_strikeTo 12 = .ok (.invokevirtual 189, 3) := by decide +kernel
theorem dX12_strikeTo_15 : decode cX12_strikeTo 15 = .ok (.ireturn, 1) := by decide +kernel
noncomputable def fX12_strikeTo (rf : Nat → Nat → Nat) (a0 : Nat) (x1 : Int32) (μ0 : o_Mem) : Option (Int32 × o_Mem) :=
  o_bd (fX12_oldOne rf a0 64 (μ0.1 (rf a0 0) 2504) x1 μ0) fun r1 μ1 =>
  some (r1, μ1)
set_option maxRecDepth 20000 in
theorem dnX12_strikeTo {X : o_Cx} (hX : o_ok X) {d : Nat} {a0 : Nat} {x1 : Int32} {μ0 : o_Mem} {q : Int32 → o_Mem → Prop} (h0 : o_is X a0 (.inl 12)) (h : o_Post (fX12_strikeTo (o_rf X) a0 x1 μ0) q) : o_Ev X (d + 7) mX12_strikeTo 0 [some (.ref (o_ad X a0)), some (.int x1)] [] μ0 (o_QZ q) := by
  unfold fX12_strikeTo at h
  refine s_aload_n (i := 0) dX12_strikeTo_0 rfl rfl ?_
  refine s_bipush dX12_strikeTo_1 kB_64 ?_
  refine s_aload_n (i := 0) dX12_strikeTo_3 rfl rfl ?_
  refine s_getR hX h0 flX12_7 rfl dX12_strikeTo_4 (fun (g1 : o_is X (o_rf X a0 0) (.inr (0, 3756))) => ?_)
  refine s_sipush dX12_strikeTo_7 kS_2504 ?_
  refine s_ialdK g1 ⟨by decide, by decide⟩ kN_2504 dX12_strikeTo_10 ?_
  refine s_iload_n (i := 1) dX12_strikeTo_11 rfl rfl ?_
  refine s_callVz (C := mX12_oldOne) (As := [.int 64, .int (μ0.1 (o_rf X a0 0) 2504), .int x1]) (rest := []) (L0 := [some (.ref (o_ad X a0)), some (.int 64), some (.int (μ0.1 (o_rf X a0 0) 2504)), some (.int x1)]) hX h0 clX12_189 dX12_strikeTo_12 rfl rfl (Nat.le_of_ble_eq_true rfl) (Nat.le_of_ble_eq_true rfl) (dnX12_oldOne hX h0 (o_bdp h)) (fun r1 μ1 zr1 h => ?_)
  exact s_zreturn rfl zr1 dX12_strikeTo_15 ⟨_, rfl, zr1, o_ret h⟩
theorem dX12_handTo_0 : decode cX12_handTo 0 = .ok (.aload_n 0, 1) := by decide +kernel
theorem dX12_handTo_1 : decode cX12_handTo 1 = .ok (.bipush 70, 2) := by decide +kernel
theorem dX12_handTo_3 : decode cX12_handTo 3 = .ok (.aload_n 0, 1) := by decide +kernel
theorem dX12_handTo_4 : decode cX12_handTo 4 = .ok (.getfield 7, 3) := by decide +kernel
theorem dX12_handTo_7 : decode cX12_handTo 7 = .ok (.sipush 2505, 3) := by decide +kernel
theorem dX12_handTo_10 : decode cX12_handTo 10 = .ok (.iaload, 1) := by decide +kernel
theorem dX12_handTo_11 : decode cX12_handTo 11 = .ok (.iload_n 1, 1) := by decide +kernel
theorem dX12_handTo_12 : decode cX12_handTo 12 = .ok (.invokevirtual 189, 3) := by decide +kernel
theorem dX12_handTo_15 : decode cX12_handTo 15 = .ok (.ireturn, 1) := by decide +kernel
noncomputable def fX12_handTo (rf : Nat → Nat → Nat) (a0 : Nat) (x1 : Int32) (μ0 : o_Mem) : Option (Int32 × o_Mem) :=
  o_bd (fX12_oldOne rf a0 70 (μ0.1 (rf a0 0) 2505) x1 μ0) fun r1 μ1 =>
  some (r1, μ1)
set_option maxRecDepth 20000 in
theorem dnX12_handTo {X : o_Cx} (hX : o_ok X) {d : Nat} {a0 : Nat} {x1 : Int32} {μ0 : o_Mem} {q : Int32 → o_Mem → Prop} (h0 : o_is X a0 (.inl 12)) (h : o_Post (fX12_handTo (o_rf X) a0 x1 μ0) q) : o_Ev X (d + 7) mX12_handTo 0 [some (.ref (o_ad X a0)), some (.int x1)] [] μ0 (o_QZ q) := by
  unfold fX12_handTo at h
  refine s_aload_n (i := 0) dX12_handTo_0 rfl rfl ?_
  refine s_bipush dX12_handTo_1 kB_70 ?_
  refine s_aload_n (i := 0) dX12_handTo_3 rfl rfl ?_
  refine s_getR hX h0 flX12_7 rfl dX12_handTo_4 (fun (g1 : o_is X (o_rf X a0 0) (.inr (0, 3756))) => ?_)
  refine s_sipush dX12_handTo_7 kS_2505 ?_
  refine s_ialdK g1 ⟨by decide, by decide⟩ kN_2505 dX12_handTo_10 ?_
  refine s_iload_n (i := 1) dX12_handTo_11 rfl rfl ?_
  refine s_callVz (C := mX12_oldOne) (As := [.int 70, .int (μ0.1 (o_rf X a0 0) 2505), .int x1]) (rest := []) (L0 := [some (.ref (o_ad X a0)), some (.int 70), some (.int (μ0.1 (o_rf X a0 0) 2505)), some (.int x1)]) hX h0 clX12_189 dX12_handTo_12 rfl rfl (Nat.le_of_ble_eq_true rfl) (Nat.le_of_ble_eq_true rfl) (dnX12_oldOne hX h0 (o_bdp h)) (fun r1 μ1 zr1 h => ?_)
  exact s_zreturn rfl zr1 dX12_handTo_15 ⟨_, rfl, zr1, o_ret h⟩
theorem dX12_personTo_0 : decode cX12_personTo 0 = .ok (.aload_n 0, 1) := by decide +kernel
theorem dX12_personTo_1 : decode cX12_personTo 1 = .ok (.bipush 74, 2) := by decide +kernel
theorem dX12_personTo_3 : decode cX12_personTo 3 = .ok (.aload_n 0, 1) := by decide +kernel
theorem dX12_personTo_4 : decode cX12_personTo 4 = .ok (.getfield 7, 3) := by decide +kernel
theorem dX12_personTo_7 : decode cX12_personTo 7 = .ok (.sipush 2506, 3) := by decide +kernel
theorem dX12_personTo_10 : decode cX12_personTo 10 = .ok (.iaload, 1) := by decide +kernel
theorem dX12_personTo_11 : decode cX12_personTo 11 = .ok (.iload_n 1, 1) := by decide +kernel
theorem dX12_personTo_12 : decode cX12_personTo 12 = .ok (.invokevirtual 189, 3) := by decide +kernel
theorem dX12_personTo_15 : decode cX12_personTo 15 = .ok (.ireturn, 1) := by decide +kernel
noncomputable def fX12_personTo (rf : Nat → Nat → Nat) (a0 : Nat) (x1 : Int32) (μ0 : o_Mem) : Option (Int32 × o_Mem) :=
  o_bd (fX12_oldOne rf a0 74 (μ0.1 (rf a0 0) 2506) x1 μ0) fun r1 μ1 =>
  some (r1, μ1)
set_option maxRecDepth 20000 in
theorem dnX12_personTo {X : o_Cx} (hX : o_ok X) {d : Nat} {a0 : Nat} {x1 : Int32} {μ0 : o_Mem} {q : Int32 → o_Mem → Prop} (h0 : o_is X a0 (.inl 12)) (h : o_Post (fX12_personTo (o_rf X) a0 x1 μ0) q) : o_Ev X (d + 7) mX12_personTo 0 [some (.ref (o_ad X a0)), some (.int x1)] [] μ0 (o_QZ q) := by
  unfold fX12_personTo at h
  refine s_aload_n (i := 0) dX12_personTo_0 rfl rfl ?_
  refine s_bipush dX12_personTo_1 kB_74 ?_
  refine s_aload_n (i := 0) dX12_personTo_3 rfl rfl ?_
  refine s_getR hX h0 flX12_7 rfl dX12_personTo_4 (fun (g1 : o_is X (o_rf X a0 0) (.inr (0, 3756))) => ?_)
  refine s_sipush dX12_personTo_7 kS_2506 ?_
  refine s_ialdK g1 ⟨by decide, by decide⟩ kN_2506 dX12_personTo_10 ?_
  refine s_iload_n (i := 1) dX12_personTo_11 rfl rfl ?_
  refine s_callVz (C := mX12_oldOne) (As := [.int 74, .int (μ0.1 (o_rf X a0 0) 2506), .int x1]) (rest := []) (L0 := [some (.ref (o_ad X a0)), some (.int 74), some (.int (μ0.1 (o_rf X a0 0) 2506)), some (.int x1)]) hX h0 clX12_189 dX12_personTo_12 rfl rfl (Nat.le_of_ble_eq_true rfl) (Nat.le_of_ble_eq_true rfl) (dnX12_oldOne hX h0 (o_bdp h)) (fun r1 μ1 zr1 h => ?_)
  exact s_zreturn rfl zr1 dX12_personTo_15 ⟨_, rfl, zr1, o_ret h⟩
theorem dX12_otherTo_0 : decode cX12_otherTo 0 = .ok (.aload_n 0, 1) := by decide +kernel
theorem dX12_otherTo_1 : decode cX12_otherTo 1 = .ok (.ldc 180, 2) := by decide +kernel
theorem dX12_otherTo_3 : decode cX12_otherTo 3 = .ok (.invokevirtual 182, 3) := by decide +kernel
theorem dX12_otherTo_6 : decode cX12_otherTo 6 = .ok (.ifCond .eq 27, 3) := by decide +kernel
theorem dX12_otherTo_9 : decode cX12_otherTo 9 = .ok (.aload_n 0, 1) := by decide +kernel
theorem dX12_otherTo_10 : decode cX12_otherTo 10 = .ok (.bipush 74, 2) := by decide +kernel
theorem dX12_otherTo_12 : decode cX12_otherTo 12 = .ok (.aload_n 0, 1) := by decide +kernel
theorem dX12_otherTo_13 : decode cX12_otherTo 13 = .ok (.getfield 7, 3) := by decide +kernel
theorem dX12_otherTo_16 : decode cX12_otherTo 16 = .ok (.sipush 2506, 3) := by decide +kernel
theorem dX12_otherTo_19 : decode cX12_otherTo 19 = .ok (.iaload, 1) := by decide +kernel
theorem dX12_otherTo_20 : decode cX12_otherTo 20 = .ok (.invokevirtual 186, 3) := by decide +kernel
theorem dX12_otherTo_23 : decode cX12_otherTo 23 = .ok (.iload_n 2, 1) := by decide +kernel
theorem dX12_otherTo_24 : decode cX12_otherTo 24 = .ok (.if_icmp .ne 9, 3) := by decide +kernel
theorem dX12_otherTo_27 : decode cX12_otherTo 27 = .ok (.aload_n 0, 1) := by decide +kernel
theorem dX12_otherTo_28 : decode cX12_otherTo 28 = .ok (.iconst 5, 1) := by decide +kernel
theorem dX12_otherTo_29 : decode cX12_otherTo 29 = .ok (.invokevirtual 169, 3) := by decide +kernel
theorem dX12_otherTo_32 : decode cX12_otherTo 32 = .ok (.ireturn, 1) := by decide +kernel
theorem dX12_otherTo_33 : decode cX12_otherTo 33 = .ok (.aload_n 0, 1) := by decide +kernel
theorem dX12_otherTo_34 : decode cX12_otherTo 34 = .ok (.iload_n 1, 1) := by decide +kernel
theorem dX12_otherTo_35 : decode cX12_otherTo 35 = .ok (.invokevirtual 193, 3) := by decide +kernel
theorem dX12_otherTo_38 : decode cX12_otherTo 38 = .ok (.ireturn, 1) := by decide +kernel
noncomputable def fX12_otherTo_j33 (rf : Nat → Nat → Nat) (a0 : Nat) (x1 : Int32) (μ0 : o_Mem) : Option (Int32 × o_Mem) :=
  o_bd (fX12_personTo rf a0 x1 μ0) fun r1 μ1 =>
  some (r1, μ1)
noncomputable def fX12_otherTo (rf : Nat → Nat → Nat) (a0 : Nat) (x1 : Int32) (x2 : Int32) (μ0 : o_Mem) : Option (Int32 × o_Mem) :=
  o_bd (fX12_isName rf a0 μ0) fun r1 μ1 =>
  if r1 = 0 then (
    fX12_otherTo_j33 rf a0 x1 μ1)
  else (
    o_bd (fX12_findHere rf a0 74 (μ1.1 (rf a0 0) 2506) μ1) fun r2 μ2 =>
    if r2 = x2 then (
      o_bd (fX12_fails rf a0 5 μ2) fun r3 μ3 =>
      some (r3, μ3))
    else (
      fX12_otherTo_j33 rf a0 x1 μ2))
set_option maxRecDepth 20000 in
theorem dnX12_otherTo_j33 {X : o_Cx} (hX : o_ok X) {d : Nat} {a0 : Nat} {x1 : Int32} {μ0 : o_Mem} {q : Int32 → o_Mem → Prop} (h0 : o_is X a0 (.inl 12)) (h : o_Post (fX12_otherTo_j33 (o_rf X) a0 x1 μ0) q) : o_Ev X (d + 8) mX12_otherTo 33 [some (.ref (o_ad X a0)), some (.int x1), none] [] μ0 (o_QZ q) := by
  unfold fX12_otherTo_j33 at h
  refine s_aload_n (i := 0) dX12_otherTo_33 rfl rfl ?_
  refine s_iload_n (i := 1) dX12_otherTo_34 rfl rfl ?_
  refine s_callVz (C := mX12_personTo) (As := [.int x1]) (rest := []) (L0 := [some (.ref (o_ad X a0)), some (.int x1)]) hX h0 clX12_193 dX12_otherTo_35 rfl rfl (Nat.le_of_ble_eq_true rfl) (Nat.le_of_ble_eq_true rfl) (dnX12_personTo hX h0 (o_bdp h)) (fun r1 μ1 zr1 h => ?_)
  exact s_zreturn rfl zr1 dX12_otherTo_38 ⟨_, rfl, zr1, o_ret h⟩
set_option maxRecDepth 20000 in
theorem dnX12_otherTo {X : o_Cx} (hX : o_ok X) {d : Nat} {a0 : Nat} {x1 : Int32} {x2 : Int32} {μ0 : o_Mem} {q : Int32 → o_Mem → Prop} (h0 : o_is X a0 (.inl 12)) (h : o_Post (fX12_otherTo (o_rf X) a0 x1 x2 μ0) q) : o_Ev X (d + 8) mX12_otherTo 0 [some (.ref (o_ad X a0)), some (.int x1), some (.int x2)] [] μ0 (o_QZ q) := by
  unfold fX12_otherTo at h
  refine s_aload_n (i := 0) dX12_otherTo_0 rfl rfl ?_
  refine s_ldcS1 rfl dX12_otherTo_1 ?_
  refine s_callVz (C := mX12_isName) (As := [.ref (o_aK X 1)]) (rest := []) (L0 := [some (.ref (o_ad X a0)), some (.ref (o_aK X 1))]) hX h0 clX12_182 dX12_otherTo_3 rfl rfl (Nat.le_of_ble_eq_true rfl) (Nat.le_of_ble_eq_true rfl) (dnX12_isName hX h0 (o_bdp h)) (fun r1 μ1 zr1 h => ?_)
  refine s_if_eq (tgt := 33) dX12_otherTo_6 rfl (fun c1 => ?_) (fun c1 => ?_)
  · have h := o_if_t c1 h
    refine s_mask [true, true, false] (L' := [some (.ref (o_ad X a0)), some (.int x1), none]) rfl ?_
    exact dnX12_otherTo_j33 hX h0 h
  · have h := o_if_f c1 h
    refine s_aload_n (i := 0) dX12_otherTo_9 rfl rfl ?_
    refine s_bipush dX12_otherTo_10 kB_74 ?_
    refine s_aload_n (i := 0) dX12_otherTo_12 rfl rfl ?_
    refine s_getR hX h0 flX12_7 rfl dX12_otherTo_13 (fun (g1 : o_is X (o_rf X a0 0) (.inr (0, 3756))) => ?_)
    refine s_sipush dX12_otherTo_16 kS_2506 ?_
    refine s_ialdK g1 ⟨by decide, by decide⟩ kN_2506 dX12_otherTo_19 ?_
    refine s_callVi (C := mX12_findHere) (As := [.int 74, .int (μ1.1 (o_rf X a0 0) 2506)]) (rest := []) (L0 := [some (.ref (o_ad X a0)), some (.int 74), some (.int (μ1.1 (o_rf X a0 0) 2506)), none]) hX h0 clX12_186 dX12_otherTo_20 rfl rfl (Nat.le_of_ble_eq_true rfl) (Nat.le_of_ble_eq_true rfl) (dnX12_findHere hX h0 (o_bdp h)) (fun r2 μ2 h => ?_)
    refine s_iload_n (i := 2) dX12_otherTo_23 rfl rfl ?_
    refine s_icmp_ne (tgt := 33) dX12_otherTo_24 rfl (fun c1 => ?_) (fun c1 => ?_)
    · have h := o_if_f c1 h
      refine s_mask [true, true, false] (L' := [some (.ref (o_ad X a0)), some (.int x1), none]) rfl ?_
      exact dnX12_otherTo_j33 hX h0 h
    · have h := o_if_t c1 h
      refine s_aload_n (i := 0) dX12_otherTo_27 rfl rfl ?_
      refine s_iconst dX12_otherTo_28 kI_5 ?_
      refine s_callVz (C := mX12_fails) (As := [.int 5]) (rest := []) (L0 := [some (.ref (o_ad X a0)), some (.int 5)]) hX h0 clX12_169 dX12_otherTo_29 rfl rfl (Nat.le_of_ble_eq_true rfl) (Nat.le_of_ble_eq_true rfl) (dnX12_fails hX h0 (o_bdp h)) (fun r3 μ3 zr3 h => ?_)
      exact s_zreturn rfl zr3 dX12_otherTo_32 ⟨_, rfl, zr3, o_ret h⟩
theorem dX12_aStrike_0 : decode cX12_aStrike 0 = .ok (.sipush 2517, 3) := by decide +kernel
theorem dX12_aStrike_3 : decode cX12_aStrike 3 = .ok (.iconst 2, 1) := by decide +kernel
theorem dX12_aStrike_4 : decode cX12_aStrike 4 = .ok (.aload_n 0, 1) := by decide +kernel
theorem dX12_aStrike_5 : decode cX12_aStrike 5 = .ok (.getfield 7, 3) := by decide +kernel
theorem dX12_aStrike_8 : decode cX12_aStrike 8 = .ok (.sipush 2504, 3) := by decide +kernel
theorem dX12_aStrike_11 : decode cX12_aStrike 11 = .ok (.iaload, 1) := by decide +kernel
theorem dX12_aStrike_12 : decode cX12_aStrike 12 = .ok (.imul, 1) := by decide +kernel
theorem dX12_aStrike_13 : decode cX12_aStrike 13 = .ok (.iadd, 1) := by decide +kernel
theorem dX12_aStrike_14 : decode cX12_aStrike 14 = .ok (.istore_n 1, 1) := by decide +kernel
theorem dX12_aStrike_15 : decode cX12_aStrike 15 = .ok (.aload_n 0, 1) := by decide +kernel
theorem dX12_aStrike_16 : decode cX12_aStrike 16 = .ok (.iconst 0, 1) := by decide +kernel
theorem dX12_aStrike_17 : decode cX12_aStrike 17 = .ok (.bipush 6, 2) := by decide +kernel
theorem dX12_aStrike_19 : decode cX12_aStrike 19 = .ok (.iconst 0, 1) := by decide +kernel
theorem dX12_aStrike_20 : decode cX12_aStrike 20 = .ok (.invokevirtual 196, 3) := by decide +kernel
theorem dX12_aStrike_23 : decode cX12_aStrike 23 = .ok (.ifCond .ne 5, 3) := by decide +kernel
theorem dX12_aStrike_26 : decode cX12_aStrike 26 = .ok (.iconst 0, 1) := by decide +kernel
theorem dX12_aStrike_27 : decode cX12_aStrike 27 = .ok (.ireturn, 1) := by decide +kernel
theorem dX12_aStrike_28 : decode cX12_aStrike 28 = .ok (.aload_n 0, 1) := by decide +kernel
theorem dX12_aStrike_29 : decode cX12_aStrike 29 = .ok (.getfield 7, 3) := by decide +kernel
theorem dX12_aStrike_32 : decode cX12_aStrike 32 = .ok (.iload_n 1, 1) := by decide +kernel
theorem dX12_aStrike_33 : decode cX12_aStrike 33 = .ok (.iconst 1, 1) := by decide +kernel
theorem dX12_aStrike_34 : decode cX12_aStrike 34 = .ok (.iastore, 1) := by decide +kernel
theorem dX12_aStrike_35 : decode cX12_aStrike 35 = .ok (.aload_n 0, 1) := by decide +kernel
theorem dX12_aStrike_36 : decode cX12_aStrike 36 = .ok (.bipush 7, 2) := by decide +kernel
theorem dX12_aStrike_38 : decode cX12_aStrike 38 = .ok (.invokevirtual 199, 3) := by decide +kernel
theorem dX12_aStrike_41 : decode cX12_aStrike 41 = .ok (.ifCond .eq 16, 3) := by decide +kernel
theorem dX12_aStrike_44 : decode cX12_aStrike 44 = .ok (.aload_n 0, 1) := by decide +kernel
theorem dX12_aStrike_45 : decode cX12_aStrike 45 = .ok (.iload_n 1, 1) := by decide +kernel
theorem dX12_aStrike_46 : decode cX12_aStrike 46 = .ok (.iconst 0, 1) := by decide +kernel
theorem dX12_aStrike_47 : decode cX12_aStrike 47 = .ok (.bipush 9, 2) := by decide +kernel
theorem dX12_aStrike_49 : decode cX12_aStrike 49 = .ok (.invokevirtual 202, 3) := by decide +kernel
theorem dX12_aStrike_52 : decode cX12_aStrike 52 = .ok (.ifCond .ne 5, 3) := by decide +kernel
theorem dX12_aStrike_55 : decode cX12_aStrike 55 = .ok (.iconst 0, 1) := by decide +kernel
theorem dX12_aStrike_56 : decode cX12_aStrike 56 = .ok (.ireturn, 1) := by decide +kernel
theorem dX12_aStrike_57 : decode cX12_aStrike 57 = .ok (.aload_n 0, 1) := by decide +kernel
theorem dX12_aStrike_58 : decode cX12_aStrike 58 = .ok (.getfield 7, 3) := by decide +kernel
theorem dX12_aStrike_61 : decode cX12_aStrike 61 = .ok (.sipush 2504, 3) := by decide +kernel
theorem dX12_aStrike_64 : decode cX12_aStrike 64 = .ok (.dup2, 1) := by decide +kernel
theorem dX12_aStrike_65 : decode cX12_aStrike 65 = .ok (.iaload, 1) := by decide +kernel
theorem dX12_aStrike_66 : decode cX12_aStrike 66 = .ok (.iconst 1, 1) := by decide +kernel
theorem dX12_aStrike_67 : decode cX12_aStrike 67 = .ok (.iadd, 1) := by decide +kernel
theorem dX12_aStrike_68 : decode cX12_aStrike 68 = .ok (.iastore, 1) := by decide +kernel
theorem dX12_aStrike_69 : decode cX12_aStrike 69 = .ok (.iconst 1, 1) := by decide +kernel
theorem dX12_aStrike_70 : decode cX12_aStrike 70 = .ok (.ireturn, 1) := by decide +kernel
noncomputable def fX12_aStrike_j57 (rf : Nat → Nat → Nat) (a0 : Nat) (μ0 : o_Mem) : Option (Int32 × o_Mem) :=
  o_seq (o_wI μ0 (rf a0 0) 2504 ((μ0.1 (rf a0 0) 2504) + 1)) fun μ1 =>
  some (1, μ1)
noncomputable def fX12_aStrike (rf : Nat → Nat → Nat) (a0 : Nat) (μ0 : o_Mem) : Option (Int32 × o_Mem) :=
  o_bd (fX12_newOne rf a0 0 6 0 μ0) fun r1 μ1 =>
  if r1 = 0 then (
    some (0, μ1))
  else (
    o_ck (0 ≤ ((2517 + (2 * (μ0.1 (rf a0 0) 2504)))).toInt ∧ ((2517 + (2 * (μ0.1 (rf a0 0) 2504)))).toInt < 3756) <|
    o_seq (o_wI μ1 (rf a0 0) (((2517 + (2 * (μ0.1 (rf a0 0) 2504)))).toNatClampNeg) 1) fun μ2 =>
    o_bd (fX12_isThere rf a0 7 μ2) fun r2 μ3 =>
    if r2 = 0 then (
      fX12_aStrike_j57 rf a0 μ3)
    else (
      o_bd (fX12_number rf a0 (2517 + (2 * (μ0.1 (rf a0 0) 2504))) 0 9 μ3) fun r3 μ4 =>
      if r3 = 0 then (
        some (0, μ4))
      else (
        fX12_aStrike_j57 rf a0 μ4)))
set_option maxRecDepth 20000 in
theorem dnX12_aStrike_j57 {X : o_Cx} (hX : o_ok X) {d : Nat} {a0 : Nat} {μ0 : o_Mem} {q : Int32 → o_Mem → Prop} (h0 : o_is X a0 (.inl 12)) (h : o_Post (fX12_aStrike_j57 (o_rf X) a0 μ0) q) : o_Ev X (d + 7) mX12_aStrike 57 [some (.ref (o_ad X a0)), none] [] μ0 (o_QZ q) := by
  unfold fX12_aStrike_j57 at h
  refine s_aload_n (i := 0) dX12_aStrike_57 rfl rfl ?_
  refine s_getR hX h0 flX12_7 rfl dX12_aStrike_58 (fun (g1 : o_is X (o_rf X a0 0) (.inr (0, 3756))) => ?_)
  refine s_sipush dX12_aStrike_61 kS_2504 ?_
  refine s_dup2 dX12_aStrike_64 rfl rfl ?_
  refine s_ialdK g1 ⟨by decide, by decide⟩ kN_2504 dX12_aStrike_65 ?_
  refine s_iconst dX12_aStrike_66 kI_1 ?_
  refine s_iadd dX12_aStrike_67 ?_
  refine s_iastK hX g1 ⟨by decide, by decide⟩ kN_2504 dX12_aStrike_68 (o_gen h (fun μ1 h => ?_))
  refine s_iconst dX12_aStrike_69 kI_1 ?_
  exact s_zreturn rfl (Or.inr rfl) dX12_aStrike_70 ⟨_, rfl, (Or.inr rfl), o_ret h⟩
set_option maxRecDepth 20000 in
theorem dnX12_aStrike {X : o_Cx} (hX : o_ok X) {d : Nat} {a0 : Nat} {μ0 : o_Mem} {q : Int32 → o_Mem → Prop} (h0 : o_is X a0 (.inl 12)) (h : o_Post (fX12_aStrike (o_rf X) a0 μ0) q) : o_Ev X (d + 7) mX12_aStrike 0 [some (.ref (o_ad X a0)), none] [] μ0 (o_QZ q) := by
  unfold fX12_aStrike at h
  refine s_sipush dX12_aStrike_0 kS_2517 ?_
  refine s_iconst dX12_aStrike_3 kI_2 ?_
  refine s_aload_n (i := 0) dX12_aStrike_4 rfl rfl ?_
  refine s_getR hX h0 flX12_7 rfl dX12_aStrike_5 (fun (g1 : o_is X (o_rf X a0 0) (.inr (0, 3756))) => ?_)
  refine s_sipush dX12_aStrike_8 kS_2504 ?_
  refine s_ialdK g1 ⟨by decide, by decide⟩ kN_2504 dX12_aStrike_11 ?_
  refine s_imul dX12_aStrike_12 ?_
  refine s_iadd dX12_aStrike_13 ?_
  refine s_istore_n (i := 1) dX12_aStrike_14 rfl (Nat.le_of_ble_eq_true rfl) rfl ?_
  refine s_aload_n (i := 0) dX12_aStrike_15 rfl rfl ?_
  refine s_iconst dX12_aStrike_16 kI_0 ?_
  refine s_bipush dX12_aStrike_17 kB_6 ?_
  refine s_iconst dX12_aStrike_19 kI_0 ?_
  refine s_callVz (C := mX12_newOne) (As := [.int 0, .int 6, .int 0]) (rest := []) (L0 := [some (.ref (o_ad X a0)), some (.int 0), some (.int 6), some (.int 0)]) hX h0 clX12_196 dX12_aStrike_20 rfl rfl (Nat.le_of_ble_eq_true rfl) (Nat.le_of_ble_eq_true rfl) (dnX12_newOne hX h0 (o_bdp h)) (fun r1 μ1 zr1 h => ?_)
  refine s_if_ne (tgt := 28) dX12_aStrike_23 rfl (fun c1 => ?_) (fun c1 => ?_)
  · have h := o_if_f c1 h
    refine s_aload_n (i := 0) dX12_aStrike_28 rfl rfl ?_
    refine s_getR hX h0 flX12_7 rfl dX12_aStrike_29 (fun (g2 : o_is X (o_rf X a0 0) (.inr (0, 3756))) => ?_)
    refine s_iload_n (i := 1) dX12_aStrike_32 rfl rfl ?_
    refine s_iconst dX12_aStrike_33 kI_1 ?_
    have hc := o_ck_c h
    have h := o_ck_k h
    refine s_iastK hX g2 hc rfl dX12_aStrike_34 (o_gen h (fun μ2 h => ?_))
    refine s_aload_n (i := 0) dX12_aStrike_35 rfl rfl ?_
    refine s_bipush dX12_aStrike_36 kB_7 ?_
    refine s_callVz (C := mX12_isThere) (As := [.int 7]) (rest := []) (L0 := [some (.ref (o_ad X a0)), some (.int 7)]) hX h0 clX12_199 dX12_aStrike_38 rfl rfl (Nat.le_of_ble_eq_true rfl) (Nat.le_of_ble_eq_true rfl) (dnX12_isThere hX h0 (o_bdp h)) (fun r2 μ3 zr2 h => ?_)
    refine s_if_eq (tgt := 57) dX12_aStrike_41 rfl (fun c1 => ?_) (fun c1 => ?_)
    · have h := o_if_t c1 h
      refine s_mask [true, false] (L' := [some (.ref (o_ad X a0)), none]) rfl ?_
      exact dnX12_aStrike_j57 hX h0 h
    · have h := o_if_f c1 h
      refine s_aload_n (i := 0) dX12_aStrike_44 rfl rfl ?_
      refine s_iload_n (i := 1) dX12_aStrike_45 rfl rfl ?_
      refine s_iconst dX12_aStrike_46 kI_0 ?_
      refine s_bipush dX12_aStrike_47 kB_9 ?_
      refine s_callVz (C := mX12_number) (As := [.int (2517 + (2 * (μ0.1 (o_rf X a0 0) 2504))), .int 0, .int 9]) (rest := []) (L0 := [some (.ref (o_ad X a0)), some (.int (2517 + (2 * (μ0.1 (o_rf X a0 0) 2504)))), some (.int 0), some (.int 9)]) hX h0 clX12_202 dX12_aStrike_49 rfl rfl (Nat.le_of_ble_eq_true rfl) (Nat.le_of_ble_eq_true rfl) (dnX12_number hX h0 (o_bdp h)) (fun r3 μ4 zr3 h => ?_)
      refine s_if_ne (tgt := 57) dX12_aStrike_52 rfl (fun c1 => ?_) (fun c1 => ?_)
      · have h := o_if_f c1 h
        refine s_mask [true, false] (L' := [some (.ref (o_ad X a0)), none]) rfl ?_
        exact dnX12_aStrike_j57 hX h0 h
      · have h := o_if_t c1 h
        refine s_iconst dX12_aStrike_55 kI_0 ?_
        exact s_zreturn rfl (Or.inl rfl) dX12_aStrike_56 ⟨_, rfl, (Or.inl rfl), o_ret h⟩
  · have h := o_if_t c1 h
    refine s_iconst dX12_aStrike_26 kI_0 ?_
    exact s_zreturn rfl (Or.inl rfl) dX12_aStrike_27 ⟨_, rfl, (Or.inl rfl), o_ret h⟩
theorem dX12_aPerson_0 : decode cX12_aPerson 0 = .ok (.sipush 2529, 3) := by decide +kernel
theorem dX12_aPerson_3 : decode cX12_aPerson 3 = .ok (.aload_n 0, 1) := by decide +kernel
theorem dX12_aPerson_4 : decode cX12_aPerson 4 = .ok (.getfield 7, 3) := by decide +kernel
theorem dX12_aPerson_7 : decode cX12_aPerson 7 = .ok (.sipush 2506, 3) := by decide +kernel
theorem dX12_aPerson_10 : decode cX12_aPerson 10 = .ok (.iaload, 1) := by decide +kernel
theorem dX12_aPerson_11 : decode cX12_aPerson 11 = .ok (.iadd, 1) := by decide +kernel
theorem dX12_aPerson_12 : decode cX12_aPerson 12 = .ok (.istore_n 1, 1) := by decide +kernel
theorem dX12_aPerson_13 : decode cX12_aPerson 13 = .ok (.aload_n 0, 1) := by decide +kernel
theorem dX12_aPerson_14 : decode cX12_aPerson 14 = .ok (.iconst 2, 1) := by decide +kernel
theorem dX12_aPerson_15 : decode cX12_aPerson 15 = .ok (.bipush 6, 2) := by decide +kernel
theorem dX12_aPerson_17 : decode cX12_aPerson 17 = .ok (.bipush 10, 2) := by decide +kernel
theorem dX12_aPerson_19 : decode cX12_aPerson 19 = .ok (.invokevirtual 196, 3) := by decide +kernel
theorem dX12_aPerson_22 : decode cX12_aPerson 22 = .ok (.ifCond .eq 21, 3) := by decide +kernel
theorem dX12_aPerson_25 : decode cX12_aPerson 25 = .ok (.aload_n 0, 1) := by decide +kernel
theorem dX12_aPerson_26 : decode cX12_aPerson 26 = .ok (.ldc 180, 2) := by decide +kernel
theorem dX12_aPerson_28 : decode cX12_aPerson 28 = .ok (.iconst 1, 1) := by decide +kernel
theorem dX12_aPerson_29 : decode cX12_aPerson 29 = .ok (.invokevirtual 205, 3) := by decide +kernel
theorem dX12_aPerson_32 : decode cX12_aPerson 32 = .ok (.ifCond .eq 11, 3) := by decide +kernel
theorem dX12_aPerson_35 : decode cX12_aPerson 35 = .ok (.aload_n 0, 1) := by decide +kernel
theorem dX12_aPerson_36 : decode cX12_aPerson 36 = .ok (.iload_n 1, 1) := by decide +kernel
theorem dX12_aPerson_37 : decode cX12_aPerson 37 = .ok (.invokevirtual 209, 3) := by decide +kernel
theorem dX12_aPerson_40 : decode cX12_aPerson 40 = .ok (.ifCond .ne 5, 3) := by decide +kernel
theorem dX12_aPerson_43 : decode cX12_aPerson 43 = .ok (.iconst 0, 1) := by decide +kernel
theorem dX12_aPerson_44 : decode cX12_aPerson 44 = .ok (.ireturn, 1) := by decide +kernel
theorem dX12_aPerson_45 : decode cX12_aPerson 45 = .ok (.aload_n 0, 1) := by decide +kernel
theorem dX12_aPerson_46 : decode cX12_aPerson 46 = .ok (.getfield 7, 3) := by decide +kernel
theorem dX12_aPerson_49 : decode cX12_aPerson 49 = .ok (.sipush 2506, 3) := by decide +kernel
theorem dX12_aPerson_52 : decode cX12_aPerson 52 = .ok (.dup2, 1) := by decide +kernel
theorem dX12_aPerson_53 : decode cX12_aPerson 53 = .ok (.iaload, 1) := by decide +kernel
theorem dX12_aPerson_54 : decode cX12_aPerson 54 = .ok (.iconst 1, 1) := by decide +kernel
theorem dX12_aPerson_55 : decode cX12_aPerson 55 = .ok (.iadd, 1) := by decide +kernel
theorem dX12_aPerson_56 : decode cX12_aPerson 56 = .ok (.iastore, 1) := by decide +kernel
theorem dX12_aPerson_57 : decode cX12_aPerson 57 = .ok (.iconst 1, 1) := by decide +kernel
theorem dX12_aPerson_58 : decode cX12_aPerson 58 = .ok (.ireturn, 1) := by decide +kernel
noncomputable def fX12_aPerson (rf : Nat → Nat → Nat) (a0 : Nat) (μ0 : o_Mem) : Option (Int32 × o_Mem) :=
  o_bd (fX12_newOne rf a0 2 6 10 μ0) fun r1 μ1 =>
  if r1 = 0 then (
    some (0, μ1))
  else (
    o_bd (fX12_wantWord rf a0 1 μ1) fun r2 μ2 =>
    if r2 = 0 then (
      some (0, μ2))
    else (
      o_bd (fX12_handTo rf a0 (2529 + (μ0.1 (rf a0 0) 2506)) μ2) fun r3 μ3 =>
      if r3 = 0 then (
        some (0, μ3))
      else (
        o_seq (o_wI μ3 (rf a0 0) 2506 ((μ3.1 (rf a0 0) 2506) + 1)) fun μ4 =>
        some (1, μ4))))
set_option maxRecDepth 20000 in
theorem dnX12_aPerson {X : o_Cx} (hX : o_ok X) {d : Nat} {a0 : Nat} {μ0 : o_Mem} {q : Int32 → o_Mem → Prop} (h0 : o_is X a0 (.inl 12)) (h : o_Post (fX12_aPerson (o_rf X) a0 μ0) q) : o_Ev X (d + 8) mX12_aPerson 0 [some (.ref (o_ad X a0)), none] [] μ0 (o_QZ q) := by
  unfold fX12_aPerson at h
  refine s_sipush dX12_aPerson_0 kS_2529 ?_
  refine s_aload_n (i := 0) dX12_aPerson_3 rfl rfl ?_
  refine s_getR hX h0 flX12_7 rfl dX12_aPerson_4 (fun (g1 : o_is X (o_rf X a0 0) (.inr (0, 3756))) => ?_)
  refine s_sipush dX12_aPerson_7 kS_2506 ?_
  refine s_ialdK g1 ⟨by decide, by decide⟩ kN_2506 dX12_aPerson_10 ?_
  refine s_iadd dX12_aPerson_11 ?_
  refine s_istore_n (i := 1) dX12_aPerson_12 rfl (Nat.le_of_ble_eq_true rfl) rfl ?_
  refine s_aload_n (i := 0) dX12_aPerson_13 rfl rfl ?_
  refine s_iconst dX12_aPerson_14 kI_2 ?_
  refine s_bipush dX12_aPerson_15 kB_6 ?_
  refine s_bipush dX12_aPerson_17 kB_10 ?_
  refine s_callVz (C := mX12_newOne) (As := [.int 2, .int 6, .int 10]) (rest := []) (L0 := [some (.ref (o_ad X a0)), some (.int 2), some (.int 6), some (.int 10)]) hX h0 clX12_196 dX12_aPerson_19 rfl rfl (Nat.le_of_ble_eq_true rfl) (Nat.le_of_ble_eq_true rfl) (dnX12_newOne hX h0 (o_bdp h)) (fun r1 μ1 zr1 h => ?_)
  refine s_if_eq (tgt := 43) dX12_aPerson_22 rfl (fun c1 => ?_) (fun c1 => ?_)
  · have h := o_if_t c1 h
    refine s_iconst dX12_aPerson_43 kI_0 ?_
    exact s_zreturn rfl (Or.inl rfl) dX12_aPerson_44 ⟨_, rfl, (Or.inl rfl), o_ret h⟩
  · have h := o_if_f c1 h
    refine s_aload_n (i := 0) dX12_aPerson_25 rfl rfl ?_
    refine s_ldcS1 rfl dX12_aPerson_26 ?_
    refine s_iconst dX12_aPerson_28 kI_1 ?_
    refine s_callVz (C := mX12_wantWord) (As := [.ref (o_aK X 1), .int 1]) (rest := []) (L0 := [some (.ref (o_ad X a0)), some (.ref (o_aK X 1)), some (.int 1)]) hX h0 clX12_205 dX12_aPerson_29 rfl rfl (Nat.le_of_ble_eq_true rfl) (Nat.le_of_ble_eq_true rfl) (dnX12_wantWord hX h0 (o_bdp h)) (fun r2 μ2 zr2 h => ?_)
    refine s_if_eq (tgt := 43) dX12_aPerson_32 rfl (fun c1 => ?_) (fun c1 => ?_)
    · have h := o_if_t c1 h
      refine s_iconst dX12_aPerson_43 kI_0 ?_
      exact s_zreturn rfl (Or.inl rfl) dX12_aPerson_44 ⟨_, rfl, (Or.inl rfl), o_ret h⟩
    · have h := o_if_f c1 h
      refine s_aload_n (i := 0) dX12_aPerson_35 rfl rfl ?_
      refine s_iload_n (i := 1) dX12_aPerson_36 rfl rfl ?_
      refine s_callVz (C := mX12_handTo) (As := [.int (2529 + (μ0.1 (o_rf X a0 0) 2506))]) (rest := []) (L0 := [some (.ref (o_ad X a0)), some (.int (2529 + (μ0.1 (o_rf X a0 0) 2506)))]) hX h0 clX12_209 dX12_aPerson_37 rfl rfl (Nat.le_of_ble_eq_true rfl) (Nat.le_of_ble_eq_true rfl) (dnX12_handTo hX h0 (o_bdp h)) (fun r3 μ3 zr3 h => ?_)
      refine s_if_ne (tgt := 45) dX12_aPerson_40 rfl (fun c1 => ?_) (fun c1 => ?_)
      · have h := o_if_f c1 h
        refine s_aload_n (i := 0) dX12_aPerson_45 rfl rfl ?_
        refine s_getR hX h0 flX12_7 rfl dX12_aPerson_46 (fun (g2 : o_is X (o_rf X a0 0) (.inr (0, 3756))) => ?_)
        refine s_sipush dX12_aPerson_49 kS_2506 ?_
        refine s_dup2 dX12_aPerson_52 rfl rfl ?_
        refine s_ialdK g2 ⟨by decide, by decide⟩ kN_2506 dX12_aPerson_53 ?_
        refine s_iconst dX12_aPerson_54 kI_1 ?_
        refine s_iadd dX12_aPerson_55 ?_
        refine s_iastK hX g2 ⟨by decide, by decide⟩ kN_2506 dX12_aPerson_56 (o_gen h (fun μ4 h => ?_))
        refine s_iconst dX12_aPerson_57 kI_1 ?_
        exact s_zreturn rfl (Or.inr rfl) dX12_aPerson_58 ⟨_, rfl, (Or.inr rfl), o_ret h⟩
      · have h := o_if_t c1 h
        refine s_iconst dX12_aPerson_43 kI_0 ?_
        exact s_zreturn rfl (Or.inl rfl) dX12_aPerson_44 ⟨_, rfl, (Or.inl rfl), o_ret h⟩
