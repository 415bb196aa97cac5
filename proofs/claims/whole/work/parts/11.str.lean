/-! ===== string constants ===== -/
abbrev mJ0_length_8abf5 : o_M := (yJ0_length_8abf5, cJ0_length_8abf5, 1, (some .int))
theorem dJ0_length_8abf5_0 : decode cJ0_length_8abf5 0 = .ok (.aload_n 0, 1) := by decide +kernel
theorem dJ0_length_8abf5_1 : decode cJ0_length_8abf5 1 = .ok (.getfield 9, 3) := by decide +kernel
theorem dJ0_length_8abf5_4 : decode cJ0_length_8abf5 4 = .ok (.arraylength, 1) := by decide +kernel
theorem dJ0_length_8abf5_5 : decode cJ0_length_8abf5 5 = .ok (.aload_n 0, 1) := by decide +kernel
theorem dJ0_length_8abf5_6 : decode cJ0_length_8abf5 6 = .ok (.invokevirtual 335, 3) := by decide +kernel
theorem dJ0_length_8abf5_9 : decode cJ0_length_8abf5 9 = .ok (.ishr, 1) := by decide +kernel
theorem dJ0_length_8abf5_10 : decode cJ0_length_8abf5 10 = .ok (.ireturn, 1) := by decide +kernel
theorem cbJ0_length_8abf5 : o_CB mJ0_length_8abf5 0 := ⟨o_tb_of (lw_t3 (List.mem_of_getElem? (i := 121) rfl)) rfl, (o_tb_of (lw_t1 (List.mem_of_getElem? (i := 17) rfl)) rfl), ⟨by decide, by decide, by decide +kernel⟩, rfl, Nat.le_of_ble_eq_true rfl⟩
abbrev mJ0_charAt_5068e : o_M := (yJ0_charAt_5068e, cJ0_charAt_5068e, 2, (some .char))
theorem dJ0_charAt_5068e_0 : decode cJ0_charAt_5068e 0 = .ok (.aload_n 0, 1) := by decide +kernel
theorem dJ0_charAt_5068e_1 : decode cJ0_charAt_5068e 1 = .ok (.invokevirtual 492, 3) := by decide +kernel
theorem dJ0_charAt_5068e_4 : decode cJ0_charAt_5068e 4 = .ok (.ifCond .eq 12, 3) := by decide +kernel
theorem dJ0_charAt_5068e_7 : decode cJ0_charAt_5068e 7 = .ok (.aload_n 0, 1) := by decide +kernel
theorem dJ0_charAt_5068e_8 : decode cJ0_charAt_5068e 8 = .ok (.getfield 9, 3) := by decide +kernel
theorem dJ0_charAt_5068e_11 : decode cJ0_charAt_5068e 11 = .ok (.iload_n 1, 1) := by decide +kernel
theorem dJ0_charAt_5068e_12 : decode cJ0_charAt_5068e 12 = .ok (.invokestatic 495, 3) := by decide +kernel
theorem dJ0_charAt_5068e_15 : decode cJ0_charAt_5068e 15 = .ok (.ireturn, 1) := by decide +kernel
theorem cbJ0_charAt_5068e : o_CB mJ0_charAt_5068e 1 := ⟨o_tb_of (lw_t3 (List.mem_of_getElem? (i := 131) rfl)) rfl, (o_tb_of (lw_t1 (List.mem_of_getElem? (i := 17) rfl)) rfl), ⟨by decide, by decide, by decide +kernel⟩, rfl, Nat.le_of_ble_eq_true rfl⟩
abbrev mJ0_coder_7d493 : o_M := (yJ0_coder_7d493, cJ0_coder_7d493, 1, (some .byte))
theorem dJ0_coder_7d493_0 : decode cJ0_coder_7d493 0 = .ok (.getstatic 38, 3) := by decide +kernel
theorem dJ0_coder_7d493_3 : decode cJ0_coder_7d493 3 = .ok (.ifCond .eq 10, 3) := by decide +kernel
theorem dJ0_coder_7d493_6 : decode cJ0_coder_7d493 6 = .ok (.aload_n 0, 1) := by decide +kernel
theorem dJ0_coder_7d493_7 : decode cJ0_coder_7d493 7 = .ok (.getfield 15, 3) := by decide +kernel
theorem dJ0_coder_7d493_10 : decode cJ0_coder_7d493 10 = .ok (.goto 4, 3) := by decide +kernel
theorem dJ0_coder_7d493_13 : decode cJ0_coder_7d493 13 = .ok (.iconst 1, 1) := by decide +kernel
theorem dJ0_coder_7d493_14 : decode cJ0_coder_7d493 14 = .ok (.ireturn, 1) := by decide +kernel
theorem cbJ0_coder_7d493 : o_CB mJ0_coder_7d493 0 := ⟨o_tb_of (lw_t3 (List.mem_of_getElem? (i := 125) rfl)) rfl, (o_tb_of (lw_t1 (List.mem_of_getElem? (i := 17) rfl)) rfl), ⟨by decide, by decide, by decide +kernel⟩, rfl, Nat.le_of_ble_eq_true rfl⟩
abbrev mJ0_isLatin1_aae02 : o_M := (yJ0_isLatin1_aae02, cJ0_isLatin1_aae02, 1, (some .boolean))
theorem dJ0_isLatin1_aae02_0 : decode cJ0_isLatin1_aae02 0 = .ok (.getstatic 38, 3) := by decide +kernel
theorem dJ0_isLatin1_aae02_3 : decode cJ0_isLatin1_aae02 3 = .ok (.ifCond .eq 14, 3) := by decide +kernel
theorem dJ0_isLatin1_aae02_6 : decode cJ0_isLatin1_aae02 6 = .ok (.aload_n 0, 1) := by decide +kernel
theorem dJ0_isLatin1_aae02_7 : decode cJ0_isLatin1_aae02 7 = .ok (.getfield 15, 3) := by decide +kernel
theorem dJ0_isLatin1_aae02_10 : decode cJ0_isLatin1_aae02 10 = .ok (.ifCond .ne 7, 3) := by decide +kernel
theorem dJ0_isLatin1_aae02_13 : decode cJ0_isLatin1_aae02 13 = .ok (.iconst 1, 1) := by decide +kernel
theorem dJ0_isLatin1_aae02_14 : decode cJ0_isLatin1_aae02 14 = .ok (.goto 4, 3) := by decide +kernel
theorem dJ0_isLatin1_aae02_17 : decode cJ0_isLatin1_aae02 17 = .ok (.iconst 0, 1) := by decide +kernel
theorem dJ0_isLatin1_aae02_18 : decode cJ0_isLatin1_aae02 18 = .ok (.ireturn, 1) := by decide +kernel
theorem cbJ0_isLatin1_aae02 : o_CB mJ0_isLatin1_aae02 0 := ⟨o_tb_of (lw_t3 (List.mem_of_getElem? (i := 135) rfl)) rfl, (o_tb_of (lw_t1 (List.mem_of_getElem? (i := 17) rfl)) rfl), ⟨by decide, by decide, by decide +kernel⟩, rfl, Nat.le_of_ble_eq_true rfl⟩
abbrev mJ0_checkIndex_df160 : o_M := (yJ0_checkIndex_df160, cJ0_checkIndex_df160, 2, none)
theorem dJ0_checkIndex_df160_0 : decode cJ0_checkIndex_df160 0 = .ok (.iload_n 0, 1) := by decide +kernel
theorem dJ0_checkIndex_df160_1 : decode cJ0_checkIndex_df160 1 = .ok (.iload_n 1, 1) := by decide +kernel
theorem dJ0_checkIndex_df160_2 : decode cJ0_checkIndex_df160 2 = .ok (.getstatic 1053, 3) := by decide +kernel
theorem dJ0_checkIndex_df160_5 : decode cJ0_checkIndex_df160 5 = .ok (.invokestatic 1059, 3) := by decide +kernel
theorem dJ0_checkIndex_df160_8 : decode cJ0_checkIndex_df160 8 = .ok (.pop, 1) := by decide +kernel
theorem dJ0_checkIndex_df160_9 : decode cJ0_checkIndex_df160 9 = .ok (.return_, 1) := by decide +kernel
theorem cbJ0_checkIndex_df160 : o_CB mJ0_checkIndex_df160 2 := ⟨o_tb_of (lw_t3 (List.mem_of_getElem? (i := 141) rfl)) rfl, (o_tb_of (lw_t1 (List.mem_of_getElem? (i := 17) rfl)) rfl), ⟨by decide, by decide, by decide +kernel⟩, rfl, Nat.le_of_ble_eq_true rfl⟩
abbrev mJ1_charAt_3b067 : o_M := (yJ1_charAt_3b067, cJ1_charAt_3b067, 2, (some .char))
theorem dJ1_charAt_3b067_0 : decode cJ1_charAt_3b067 0 = .ok (.iload_n 1, 1) := by decide +kernel
theorem dJ1_charAt_3b067_1 : decode cJ1_charAt_3b067 1 = .ok (.aload_n 0, 1) := by decide +kernel
theorem dJ1_charAt_3b067_2 : decode cJ1_charAt_3b067 2 = .ok (.arraylength, 1) := by decide +kernel
theorem dJ1_charAt_3b067_3 : decode cJ1_charAt_3b067 3 = .ok (.invokestatic 9, 3) := by decide +kernel
theorem dJ1_charAt_3b067_6 : decode cJ1_charAt_3b067 6 = .ok (.aload_n 0, 1) := by decide +kernel
theorem dJ1_charAt_3b067_7 : decode cJ1_charAt_3b067 7 = .ok (.iload_n 1, 1) := by decide +kernel
theorem dJ1_charAt_3b067_8 : decode cJ1_charAt_3b067 8 = .ok (.baload, 1) := by decide +kernel
theorem dJ1_charAt_3b067_9 : decode cJ1_charAt_3b067 9 = .ok (.sipush 255, 3) := by decide +kernel
theorem dJ1_charAt_3b067_12 : decode cJ1_charAt_3b067 12 = .ok (.iand, 1) := by decide +kernel
theorem dJ1_charAt_3b067_13 : decode cJ1_charAt_3b067 13 = .ok (.i2c, 1) := by decide +kernel
theorem dJ1_charAt_3b067_14 : decode cJ1_charAt_3b067 14 = .ok (.ireturn, 1) := by decide +kernel
theorem cbJ1_charAt_3b067 : o_CB mJ1_charAt_3b067 2 := ⟨o_tb_of (lw_t3 (List.mem_of_getElem? (i := 138) rfl)) rfl, (o_tb_of (lw_t1 (List.mem_of_getElem? (i := 18) rfl)) rfl), ⟨by decide, by decide, by decide +kernel⟩, rfl, Nat.le_of_ble_eq_true rfl⟩
abbrev mJ3_checkIndex_8e157 : o_M := (yJ3_checkIndex_8e157, cJ3_checkIndex_8e157, 3, (some .int))
theorem dJ3_checkIndex_8e157_0 : decode cJ3_checkIndex_8e157 0 = .ok (.iload_n 0, 1) := by decide +kernel
theorem dJ3_checkIndex_8e157_1 : decode cJ3_checkIndex_8e157 1 = .ok (.ifCond .lt 8, 3) := by decide +kernel
theorem dJ3_checkIndex_8e157_4 : decode cJ3_checkIndex_8e157 4 = .ok (.iload_n 0, 1) := by decide +kernel
theorem dJ3_checkIndex_8e157_5 : decode cJ3_checkIndex_8e157 5 = .ok (.iload_n 1, 1) := by decide +kernel
theorem dJ3_checkIndex_8e157_6 : decode cJ3_checkIndex_8e157 6 = .ok (.if_icmp .lt 10, 3) := by decide +kernel
theorem dJ3_checkIndex_8e157_16 : decode cJ3_checkIndex_8e157 16 = .ok (.iload_n 0, 1) := by decide +kernel
theorem dJ3_checkIndex_8e157_17 : decode cJ3_checkIndex_8e157 17 = .ok (.ireturn, 1) := by decide +kernel
theorem cbJ3_checkIndex_8e157 : o_CB mJ3_checkIndex_8e157 3 := ⟨o_tb_of (lw_t3 (List.mem_of_getElem? (i := 146) rfl)) rfl, (o_tb_of (lw_t1 (List.mem_of_getElem? (i := 19) rfl)) rfl), ⟨by decide, by decide, by decide +kernel⟩, rfl, Nat.le_of_ble_eq_true rfl⟩
theorem cs_J1_9 : o_CS "java/lang/StringLatin1" 9 mJ0_checkIndex_df160 2 := ⟨cbJ0_checkIndex_df160, (o_tb_of (lw_t3 (List.mem_of_getElem? (i := 139) rfl)) rfl), (o_tb_of (lw_t3 (List.mem_of_getElem? (i := 140) rfl)) rfl)⟩
theorem cs_J0_495 : o_CS "java/lang/String" 495 mJ1_charAt_3b067 2 := ⟨cbJ1_charAt_3b067, (o_tb_of (lw_t3 (List.mem_of_getElem? (i := 136) rfl)) rfl), (o_tb_of (lw_t3 (List.mem_of_getElem? (i := 137) rfl)) rfl)⟩
theorem cs_J0_1059 : o_CS "java/lang/String" 1059 mJ3_checkIndex_8e157 3 := ⟨cbJ3_checkIndex_8e157, (o_tb_of (lw_t3 (List.mem_of_getElem? (i := 144) rfl)) rfl), (o_tb_of (lw_t3 (List.mem_of_getElem? (i := 145) rfl)) rfl)⟩
theorem sf_38 : Cond.fieldLink "java/lang/String" 38 "java/lang/String" "COMPACT_STRINGS" "Z" ∈ o_tb := (o_tb_of (lw_t3 (List.mem_of_getElem? (i := 126) rfl)) rfl)
theorem sf_1053 : Cond.fieldLink "java/lang/String" 1053 "jdk/internal/util/Preconditions" "SIOOBE_FORMATTER" "Ljava/util/function/BiFunction;" ∈ o_tb := (o_tb_of (lw_t3 (List.mem_of_getElem? (i := 142) rfl)) rfl)
theorem sf_9 : Cond.fieldLink "java/lang/String" 9 "java/lang/String" "value" "[B" ∈ o_tb := (o_tb_of (lw_t9 (List.mem_of_getElem? (i := 159) rfl)) rfl)
theorem sf_15 : Cond.fieldLink "java/lang/String" 15 "java/lang/String" "coder" "B" ∈ o_tb := (o_tb_of (lw_t9 (List.mem_of_getElem? (i := 160) rfl)) rfl)
theorem sv_J0_length_8abf5 : Cond.instanceMethod yJ0_length_8abf5 ∈ o_tb ∧ Cond.selects "java/lang/String" yJ0_length_8abf5 yJ0_length_8abf5 ∈ o_tb := ⟨(o_tb_of (lw_t3 (List.mem_of_getElem? (i := 119) rfl)) rfl), (o_tb_of (lw_t3 (List.mem_of_getElem? (i := 120) rfl)) rfl)⟩
theorem sv_J0_charAt_5068e : Cond.instanceMethod yJ0_charAt_5068e ∈ o_tb ∧ Cond.selects "java/lang/String" yJ0_charAt_5068e yJ0_charAt_5068e ∈ o_tb := ⟨(o_tb_of (lw_t3 (List.mem_of_getElem? (i := 129) rfl)) rfl), (o_tb_of (lw_t3 (List.mem_of_getElem? (i := 130) rfl)) rfl)⟩
theorem sv_J0_coder_7d493 : Cond.instanceMethod yJ0_coder_7d493 ∈ o_tb ∧ Cond.selects "java/lang/String" yJ0_coder_7d493 yJ0_coder_7d493 ∈ o_tb := ⟨(o_tb_of (lw_t3 (List.mem_of_getElem? (i := 123) rfl)) rfl), (o_tb_of (lw_t3 (List.mem_of_getElem? (i := 124) rfl)) rfl)⟩
theorem sv_J0_isLatin1_aae02 : Cond.instanceMethod yJ0_isLatin1_aae02 ∈ o_tb ∧ Cond.selects "java/lang/String" yJ0_isLatin1_aae02 yJ0_isLatin1_aae02 ∈ o_tb := ⟨(o_tb_of (lw_t3 (List.mem_of_getElem? (i := 133) rfl)) rfl), (o_tb_of (lw_t3 (List.mem_of_getElem? (i := 134) rfl)) rfl)⟩
theorem sl_335 : Cond.methodLink "java/lang/String" 335 yJ0_coder_7d493 ∈ o_tb := (o_tb_of (lw_t3 (List.mem_of_getElem? (i := 122) rfl)) rfl)
theorem sl_492 : Cond.methodLink "java/lang/String" 492 yJ0_isLatin1_aae02 ∈ o_tb := (o_tb_of (lw_t3 (List.mem_of_getElem? (i := 132) rfl)) rfl)
def o_ln (i : Nat) : Int32 := Int32.ofNat (o_byt i).length
def o_chr (i j : Nat) : Int32 := (o_byt i).getD j 0
theorem o_ne {a b : Nat} (h : Nat.beq a b = false) : ¬ a = b := fun e => by subst e; simp at h
theorem o_byt_ok : ∀ i, i < 2 → ∀ b ∈ o_byt i, 0 ≤ b.toInt ∧ b.toInt < 128 := by
  intro i hi
  rcases (show i = 0 ∨ i = 1 by omega) with rfl | rfl
  · decide +kernel
  · decide +kernel
theorem o_chr_ok {i : Nat} (hi : i < 2) (j : Nat) : 0 ≤ (o_chr i j).toInt ∧ (o_chr i j).toInt < 128 := by
  unfold o_chr
  rw [List.getD_eq_getElem?_getD]
  cases h : (o_byt i)[j]? with
  | none => exact ⟨by decide, by decide⟩
  | some b => exact o_byt_ok i hi b (List.mem_of_getElem? h)
theorem o_ln_toInt {i : Nat} (hi : i < 2) : (o_ln i).toInt = ((o_byt i).length : Int) := by
  rcases (show i = 0 ∨ i = 1 by omega) with rfl | rfl
  · decide +kernel
  · decide +kernel
theorem o_and255 : ∀ b : Int32, 0 ≤ b.toInt ∧ b.toInt < 128 → b &&& 255 = b := by
  intro b ⟨h1, h2⟩
  have h0 : ¬ b < 0 := by rw [Int32.lt_iff_toInt_lt]; simp; omega
  obtain ⟨j, hj, rfl⟩ := nI_of h0
  have hj2 : j < 128 := by rw [nI_toInt hj] at h2; omega
  rw [pk_andN (by omega) 8 (by decide), Nat.mod_eq_of_lt (by omega)]
theorem o_char : ∀ b : Int32, 0 ≤ b.toInt ∧ b.toInt < 128 → (b.toUInt32 % 65536).toInt32 = b := fun b ⟨h1, h2⟩ => lg_i2c_word h1 (by omega)
theorem o_narC : ∀ b : Int32, 0 ≤ b.toInt ∧ b.toInt < 128 → narrow .char (.int b) = .int b := by
  intro b h
  have h2 := pk_nc b
  rw [o_char b h] at h2
  exact h2
section oS
variable {X : o_Cx} {d : Nat} {M C : o_M} {pc : Nat} {L L0 : List (Option Value)} {st rest As : List Value} {μ : o_Mem} {Q q : Option Value → o_Mem → Prop} {idx : Nat}
theorem s_ldcS0 (hm : M.1.cls = "OddCancel$Reader") (hd : decode M.2.1 pc = .ok (.ldc 70, 2)) (k : o_Ev X d M (pc + 2) L (.ref (o_aK X 0) :: st) μ Q) : o_Ev X d M pc L st μ Q := by
  intro p e R s m args below meth c H locs ls F hP hS hl
  exact va_ldcS F.1 F.2.1 (by rw [← hm]; exact F.2.2.2.2.2.1) F.2.2.2.2.2.2.2.2.1.1 hd (k p e R s m args below meth c H locs ls F hP hS hl)
theorem s_ldcS1 (hm : M.1.cls = "OddCancelModel") (hd : decode M.2.1 pc = .ok (.ldc 180, 2)) (k : o_Ev X d M (pc + 2) L (.ref (o_aK X 1) :: st) μ Q) : o_Ev X d M pc L st μ Q := by
  intro p e R s m args below meth c H locs ls F hP hS hl
  exact va_ldcS F.1 F.2.1 (by rw [← hm]; exact F.2.2.2.2.2.1) F.2.2.2.2.2.2.2.2.1.2.1 hd (k p e R s m args below meth c H locs ls F hP hS hl)
theorem s_compact (hw : Cond.fieldLink M.1.cls idx "java/lang/String" "COMPACT_STRINGS" "Z" ∈ o_tb) (hd : decode M.2.1 pc = .ok (.getstatic idx, 3)) (k : o_Ev X d M (pc + 3) L (.int 1 :: st) μ Q) : o_Ev X d M pc L st μ Q := by
  intro p e R s m args below meth c H locs ls F hP hS hl
  obtain ⟨hx, hbc, hml, hr, hlk, hown, hts, hK, hSt, hR1, hR2⟩ := id F
  exact va_gets hx hbc hSt.2.2.2.1 hS hown (hts _ hw) (fun _ h => h) hd (k p e R s m args below meth c H locs ls F hP hS hl)
theorem s_siob (hw : Cond.fieldLink M.1.cls idx "jdk/internal/util/Preconditions" "SIOOBE_FORMATTER" "Ljava/util/function/BiFunction;" ∈ o_tb) (hd : decode M.2.1 pc = .ok (.getstatic idx, 3)) (kn : o_Ev X d M (pc + 3) L (.null :: st) μ Q) (kr : ∀ t, o_Ev X d M (pc + 3) L (.ref t :: st) μ Q) : o_Ev X d M pc L st μ Q := by
  intro p e R s m args below meth c H locs ls F hP hS hl
  obtain ⟨hx, hbc, hml, hr, hlk, hown, hts, hK, hSt, hR1, hR2⟩ := id F
  rcases hSt.2.2.2.2.2 with z | ⟨t, z⟩
  · exact va_gets hx hbc z hS hown (hts _ hw) (fun _ h => h) hd (kn p e R s m args below meth c H locs ls F hP hS hl)
  · exact va_gets hx hbc z hS hown (hts _ hw) (fun _ h => h) hd (kr t p e R s m args below meth c H locs ls F hP hS hl)
theorem s_value {i : Nat} (hi : i < 2) (hw : Cond.fieldLink M.1.cls idx "java/lang/String" "value" "[B" ∈ o_tb) (hd : decode M.2.1 pc = .ok (.getfield idx, 3)) (k : o_Ev X d M (pc + 3) L (.ref (o_aV X i) :: rest) μ Q) : o_Ev X d M pc L (.ref (o_aK X i) :: rest) μ Q := by
  intro p e R s m args below meth c H locs ls F hP hS hl
  obtain ⟨hx, hbc, hml, hr, hlk, hown, hts, hK, hSt, hR1, hR2⟩ := id F
  exact vk_getf hx hbc (hSt.2.2.1.1 i hi).2.2.1 hS hown (hts _ hw) (fun _ h => h) hd (k p e R s m args below meth c H locs ls F hP hS hl)
theorem s_coder {i : Nat} (hi : i < 2) (hw : Cond.fieldLink M.1.cls idx "java/lang/String" "coder" "B" ∈ o_tb) (hd : decode M.2.1 pc = .ok (.getfield idx, 3)) (k : o_Ev X d M (pc + 3) L (.int 0 :: rest) μ Q) : o_Ev X d M pc L (.ref (o_aK X i) :: rest) μ Q := by
  intro p e R s m args below meth c H locs ls F hP hS hl
  obtain ⟨hx, hbc, hml, hr, hlk, hown, hts, hK, hSt, hR1, hR2⟩ := id F
  exact vk_getf hx hbc (hSt.2.2.1.1 i hi).2.1 hS hown (hts _ hw) (fun _ h => h) hd (k p e R s m args below meth c H locs ls F hP hS hl)
theorem o_lenD {i : Nat} (hi : i < 2) : o_len.getD i 0 = (o_byt i).length := by
  rcases (show i = 0 ∨ i = 1 by omega) with rfl | rfl <;> rfl
theorem o_bytD {i : Nat} (hi : i < 2) : o_bytL.getD i [] = o_byt i := by
  rcases (show i = 0 ∨ i = 1 by omega) with rfl | rfl <;> rfl
theorem s_slen {i : Nat} (hi : i < 2) (hd : decode M.2.1 pc = .ok (.arraylength, 1)) (k : o_Ev X d M (pc + 1) L (.int (o_ln i) :: rest) μ Q) : o_Ev X d M pc L (.ref (o_aV X i) :: rest) μ Q := by
  intro p e R s m args below meth c H locs ls F hP hS hl
  obtain ⟨hx, hbc, hml, hr, hlk, hown, hts, hK, hSt, hR1, hR2⟩ := id F
  exact va_tlen hx hbc (hSt.2.2.1.1 i hi).2.2.2 hS (by rw [o_lenD hi]; rfl) hd (k p e R s m args below meth c H locs ls F hP hS hl)
theorem s_sbald {i : Nat} {j : Int32} (hi : i < 2) (hj : 0 ≤ j.toInt ∧ j.toInt < (o_ln i).toInt) (hd : decode M.2.1 pc = .ok (.baload, 1)) (k : o_Ev X d M (pc + 1) L (.int (o_chr i j.toNatClampNeg) :: rest) μ Q) : o_Ev X d M pc L (.int j :: .ref (o_aV X i) :: rest) μ Q := by
  intro p e R s m args below meth c H locs ls F hP hS hl
  obtain ⟨hx, hbc, hml, hr, hlk, hown, hts, hK, hSt, hR1, hR2⟩ := id F
  rw [o_ln_toInt hi] at hj
  exact va_tb hx hbc (hSt.2.2.1.1 i hi).2.2.2 hS (by rw [o_lenD hi]; exact o_in hj) (by rw [o_bytD hi]; rfl) hd (k p e R s m args below meth c H locs ls F hP hS hl)
theorem s_xreturn {v : Int32} {ty : FieldType} (hr : M.2.2.2 = some ty) (hv : narrow ty (.int v) = .int v) (hd : decode M.2.1 pc = .ok (.ireturn, 1)) (hq : Q (some (.int v)) μ) : o_Ev X d M pc L [.int v] μ Q := by
  intro p e R s m args below meth c H locs ls F hP hS hl
  exact W.zret F.1 F.2.1 (F.2.2.2.1.trans hr) hv (fun t ht hW => ⟨_, μ, rfl, hq, by rw [ht]; exact hP, hS.F ht⟩) hS.2.2 hd F.2.2.2.2.1
theorem s_i2c {x v : Int32} (hd : decode M.2.1 pc = .ok (.i2c, 1)) (hv : (x.toUInt32 % 65536).toInt32 = v) (k : o_Ev X d M (pc + 1) L (.int v :: rest) μ Q) : o_Ev X d M pc L (.int x :: rest) μ Q := by
  intro p e R s m args below meth c H locs ls F hP hS hl
  exact lv_i2c F.1 F.2.1 hd hv (k p e R s m args below meth c H locs ls F hP hS hl)
/-- a call on a string constant -/
theorem s_callT {i : Nat} {qi : Int32 → o_Mem → Prop} (hi : i < 2) (hy : C.1.cls = "java/lang/String") (hc : o_CB C As.length) (hlink : Cond.methodLink M.1.cls idx C.1 ∈ o_tb) (hv : Cond.instanceMethod C.1 ∈ o_tb ∧ Cond.selects "java/lang/String" C.1 C.1 ∈ o_tb) (hd : decode M.2.1 pc = .ok (.invokevirtual idx, 3)) (hst : st = As.reverse ++ .ref (o_aK X i) :: rest) (hL : o_entN C.2.2.1 (.ref (o_aK X i) :: As) = L0) (hlen : (lg_sl (.ref (o_aK X i) :: As)).length ≤ C.2.2.1) (hrm : (rest.map fun v => v.category).sum ≤ 8) (hE : o_Ev X d C 0 L0 [] μ (o_QI qi))
    (k : ∀ r μ', qi r μ' → o_Ev X (d + 1) M (pc + 3) L (.int r :: rest) μ' Q) : o_Ev X (d + 1) M pc L st μ Q := by
  intro p e R s m args below meth c H locs ls F hP hS hl
  obtain ⟨hcode, hini, hd3, hpn, h29⟩ := hc
  obtain ⟨hx, hbc, hml, hr, hlk, hown, hts, hK, hSt, hR1, hR2⟩ := id F
  have hM := o_met hL hlen hpn hE
  have cb : CallB R s args M.1.cls idx C.1 C.2.1 C.2.2.1 C.2.2.2 (o_code C :: o_tb) (o_rm d) 0 0 As.length := callB_of As.length hts (o_good hcode) rfl rfl rfl (hts _ hini) (hts _ hlink) hd3 (o_roomle hR1 hR2 h29)
  refine o_after (a := (Value.ref (o_aK X i) :: As).toArray) (va_runV (Ts := o_tb) (C := "java/lang/String") (As := As) ⟨hx, hbc, hml, hown, hts⟩ hM ⟨cb, hts _ hv.1, hts _ hv.2⟩ ⟨o_blind, vk_recv hSt.2.2.1 hi hS, fun U hU hW => ⟨rfl, by rw [hU]; exact hP, va_K.moved hW.alike hK, o_St_warm (locs := locs) hW (by rw [hU]; exact hS) hSt⟩⟩ rfl rfl hl.1 hst (lv_room hrm) hd ⟨Nat.zero_le _, Nat.zero_le _⟩) hS (fun v μ' H1 locs1 hq hP1 hS1 => ?_)
  obtain ⟨r, rfl, hq⟩ := hq
  exact k r μ' hq p e R s m args below meth c H1 locs1 ls F hP1 hS1 hl
end oS
section oT
variable {X : o_Cx} {d : Nat} {μ : o_Mem}
theorem t_coder {i : Nat} (hi : i < 2) : o_Ev X d mJ0_coder_7d493 0 [some (.ref (o_aK X i))] [] μ (o_QI fun r μ' => r = 0 ∧ μ' = μ) := by
  refine s_compact sf_38 dJ0_coder_7d493_0 ?_
  refine s_if_eq (tgt := 13) dJ0_coder_7d493_3 rfl (fun c1 => absurd c1 (by decide)) (fun c1 => ?_)
  refine s_aload_n (i := 0) dJ0_coder_7d493_6 rfl rfl ?_
  refine s_coder hi sf_15 dJ0_coder_7d493_7 ?_
  refine s_goto (tgt := 14) dJ0_coder_7d493_10 rfl ?_
  exact s_xreturn rfl rfl dJ0_coder_7d493_14 ⟨_, rfl, rfl, rfl⟩
theorem t_isLatin1 {i : Nat} (hi : i < 2) : o_Ev X d mJ0_isLatin1_aae02 0 [some (.ref (o_aK X i))] [] μ (o_QI fun r μ' => r = 1 ∧ μ' = μ) := by
  refine s_compact sf_38 dJ0_isLatin1_aae02_0 ?_
  refine s_if_eq (tgt := 17) dJ0_isLatin1_aae02_3 rfl (fun c1 => absurd c1 (by decide)) (fun c1 => ?_)
  refine s_aload_n (i := 0) dJ0_isLatin1_aae02_6 rfl rfl ?_
  refine s_coder hi sf_15 dJ0_isLatin1_aae02_7 ?_
  refine s_if_ne (tgt := 17) dJ0_isLatin1_aae02_10 rfl (fun c1 => absurd rfl c1) (fun c1 => ?_)
  refine s_iconst dJ0_isLatin1_aae02_13 kI_1 ?_
  refine s_goto (tgt := 18) dJ0_isLatin1_aae02_14 rfl ?_
  exact s_xreturn rfl rfl dJ0_isLatin1_aae02_18 ⟨_, rfl, rfl, rfl⟩
theorem t_prec {i n : Int32} {v : Value} (hj : 0 ≤ i.toInt ∧ i.toInt < n.toInt) : o_Ev X d mJ3_checkIndex_8e157 0 [some (.int i), some (.int n), some v] [] μ (o_QI fun _ μ' => μ' = μ) := by
  refine s_iload_n (i := 0) dJ3_checkIndex_8e157_0 rfl rfl ?_
  refine s_if_lt (tgt := 9) dJ3_checkIndex_8e157_1 rfl (fun c1 => ?_) (fun c1 => ?_)
  · rw [Int32.lt_iff_toInt_lt] at c1; simp at c1; omega
  · refine s_iload_n (i := 0) dJ3_checkIndex_8e157_4 rfl rfl ?_
    refine s_iload_n (i := 1) dJ3_checkIndex_8e157_5 rfl rfl ?_
    refine s_icmp_lt (tgt := 16) dJ3_checkIndex_8e157_6 rfl (fun c1 => ?_) (fun c1 => absurd (Int32.lt_iff_toInt_lt.mpr hj.2) c1)
    refine s_iload_n (i := 0) dJ3_checkIndex_8e157_16 rfl rfl ?_
    exact s_ireturn rfl dJ3_checkIndex_8e157_17 ⟨_, rfl, rfl⟩
theorem t_check {i n : Int32} (hj : 0 ≤ i.toInt ∧ i.toInt < n.toInt) : o_Ev X (d + 1) mJ0_checkIndex_df160 0 [some (.int i), some (.int n)] [] μ (o_QU fun _ μ' => μ' = μ) := by
  refine s_iload_n (i := 0) dJ0_checkIndex_df160_0 rfl rfl ?_
  refine s_iload_n (i := 1) dJ0_checkIndex_df160_1 rfl rfl ?_
  refine s_siob sf_1053 dJ0_checkIndex_df160_2 ?_ (fun t => ?_)
  · refine s_callSi (C := mJ3_checkIndex_8e157) (As := [.int i, .int n, .null]) (rest := []) (L0 := [some (.int i), some (.int n), some .null]) cs_J0_1059 dJ0_checkIndex_df160_5 rfl rfl (Nat.le_of_ble_eq_true rfl) (Nat.le_of_ble_eq_true rfl) (t_prec hj) (fun r1 μ1 h => ?_)
    refine s_pop dJ0_checkIndex_df160_8 rfl ?_
    exact s_return rfl dJ0_checkIndex_df160_9 ⟨rfl, h⟩
  · refine s_callSi (C := mJ3_checkIndex_8e157) (As := [.int i, .int n, .ref t]) (rest := []) (L0 := [some (.int i), some (.int n), some (.ref t)]) cs_J0_1059 dJ0_checkIndex_df160_5 rfl rfl (Nat.le_of_ble_eq_true rfl) (Nat.le_of_ble_eq_true rfl) (t_prec hj) (fun r1 μ1 h => ?_)
    refine s_pop dJ0_checkIndex_df160_8 rfl ?_
    exact s_return rfl dJ0_checkIndex_df160_9 ⟨rfl, h⟩
theorem t_lat {i : Nat} {j : Int32} (hi : i < 2) (hj : 0 ≤ j.toInt ∧ j.toInt < (o_ln i).toInt) : o_Ev X (d + 2) mJ1_charAt_3b067 0 [some (.ref (o_aV X i)), some (.int j)] [] μ (o_QI fun r μ' => r = o_chr i j.toNatClampNeg ∧ μ' = μ) := by
  refine s_iload_n (i := 1) dJ1_charAt_3b067_0 rfl rfl ?_
  refine s_aload_n (i := 0) dJ1_charAt_3b067_1 rfl rfl ?_
  refine s_slen hi dJ1_charAt_3b067_2 ?_
  refine s_callSu (C := mJ0_checkIndex_df160) (As := [.int j, .int (o_ln i)]) (rest := []) (L0 := [some (.int j), some (.int (o_ln i))]) cs_J1_9 dJ1_charAt_3b067_3 rfl rfl (Nat.le_of_ble_eq_true rfl) (Nat.le_of_ble_eq_true rfl) (t_check hj) (fun r1 μ1 h => ?_)
  refine s_aload_n (i := 0) dJ1_charAt_3b067_6 rfl rfl ?_
  refine s_iload_n (i := 1) dJ1_charAt_3b067_7 rfl rfl ?_
  refine s_sbald hi hj dJ1_charAt_3b067_8 ?_
  have hk := o_chr_ok hi j.toNatClampNeg
  refine s_sipush (v := 255) dJ1_charAt_3b067_9 (by decide) ?_
  refine s_iand dJ1_charAt_3b067_12 ?_
  rw [o_and255 _ hk]
  refine s_i2c dJ1_charAt_3b067_13 (o_char _ hk) ?_
  exact s_xreturn rfl (o_narC _ hk) dJ1_charAt_3b067_14 ⟨_, rfl, rfl, h⟩
theorem t_charAt {i : Nat} {j : Int32} (hi : i < 2) (hj : 0 ≤ j.toInt ∧ j.toInt < (o_ln i).toInt) : o_Ev X (d + 3) mJ0_charAt_5068e 0 [some (.ref (o_aK X i)), some (.int j)] [] μ (o_QI fun r μ' => r = o_chr i j.toNatClampNeg ∧ μ' = μ) := by
  refine s_aload_n (i := 0) dJ0_charAt_5068e_0 rfl rfl ?_
  refine s_callT (C := mJ0_isLatin1_aae02) (As := []) (rest := []) (L0 := [some (.ref (o_aK X i))]) hi rfl cbJ0_isLatin1_aae02 sl_492 sv_J0_isLatin1_aae02 dJ0_charAt_5068e_1 rfl rfl (Nat.le_of_ble_eq_true rfl) (Nat.le_of_ble_eq_true rfl) (t_isLatin1 hi) (fun r1 μ1 h => ?_)
  obtain ⟨rfl, rfl⟩ := h
  refine s_if_eq (tgt := 16) dJ0_charAt_5068e_4 rfl (fun c1 => absurd c1 (by decide)) (fun c1 => ?_)
  refine s_aload_n (i := 0) dJ0_charAt_5068e_7 rfl rfl ?_
  refine s_value hi sf_9 dJ0_charAt_5068e_8 ?_
  refine s_iload_n (i := 1) dJ0_charAt_5068e_11 rfl rfl ?_
  refine s_callSi (C := mJ1_charAt_3b067) (As := [.ref (o_aV X i), .int j]) (rest := []) (L0 := [some (.ref (o_aV X i)), some (.int j)]) cs_J0_495 dJ0_charAt_5068e_12 rfl rfl (Nat.le_of_ble_eq_true rfl) (Nat.le_of_ble_eq_true rfl) (t_lat hi hj) (fun r1 μ2 h => ?_)
  obtain ⟨rfl, rfl⟩ := h
  exact s_xreturn rfl (o_narC _ (o_chr_ok hi _)) dJ0_charAt_5068e_15 ⟨_, rfl, rfl, rfl⟩
theorem o_shr0 (x : Int32) : x >>> ((0 : Int32) &&& 31) = x := by
  have e : ((0 : Int32) &&& 31) = 0 := by decide
  rw [e]
  apply Int32.toInt_inj.mp
  rw [pk_shr x 0 0 (by decide)]
  simp
theorem t_length {i : Nat} (hi : i < 2) : o_Ev X (d + 1) mJ0_length_8abf5 0 [some (.ref (o_aK X i))] [] μ (o_QI fun r μ' => r = o_ln i ∧ μ' = μ) := by
  refine s_aload_n (i := 0) dJ0_length_8abf5_0 rfl rfl ?_
  refine s_value hi sf_9 dJ0_length_8abf5_1 ?_
  refine s_slen hi dJ0_length_8abf5_4 ?_
  refine s_aload_n (i := 0) dJ0_length_8abf5_5 rfl rfl ?_
  refine s_callT (C := mJ0_coder_7d493) (As := []) (rest := [.int (o_ln i)]) (L0 := [some (.ref (o_aK X i))]) hi rfl cbJ0_coder_7d493 sl_335 sv_J0_coder_7d493 dJ0_length_8abf5_6 rfl rfl (Nat.le_of_ble_eq_true rfl) (Nat.le_of_ble_eq_true rfl) (t_coder hi) (fun r1 μ1 h => ?_)
  obtain ⟨rfl, rfl⟩ := h
  refine s_ishr dJ0_length_8abf5_9 ?_
  rw [o_shr0]
  exact s_ireturn rfl dJ0_length_8abf5_10 ⟨_, rfl, rfl, rfl⟩
end oT
section oU
variable {X : o_Cx} {d : Nat} {M : o_M} {pc : Nat} {L : List (Option Value)} {st rest : List Value} {μ : o_Mem} {Q : Option Value → o_Mem → Prop} {idx : Nat}
theorem s_strlen {i : Nat} (hi : i < 2) (hl : Cond.methodLink M.1.cls idx yJ0_length_8abf5 ∈ o_tb) (hrm : (rest.map fun v => v.category).sum ≤ 8) (hd : decode M.2.1 pc = .ok (.invokevirtual idx, 3)) (k : o_Ev X (d + 4) M (pc + 3) L (.int (o_ln i) :: rest) μ Q) : o_Ev X (d + 4) M pc L (.ref (o_aK X i) :: rest) μ Q :=
  s_callT (C := mJ0_length_8abf5) (As := []) (rest := rest) (L0 := [some (.ref (o_aK X i))]) hi rfl cbJ0_length_8abf5 hl sv_J0_length_8abf5 hd rfl rfl (Nat.le_of_ble_eq_true rfl) hrm (t_length (d := d + 2) hi) (fun r1 μ1 h => by obtain ⟨rfl, rfl⟩ := h; exact k)
theorem s_charAt {i : Nat} {j : Int32} (hi : i < 2) (hl : Cond.methodLink M.1.cls idx yJ0_charAt_5068e ∈ o_tb) (hj : 0 ≤ j.toInt ∧ j.toInt < (o_ln i).toInt) (hrm : (rest.map fun v => v.category).sum ≤ 8) (hd : decode M.2.1 pc = .ok (.invokevirtual idx, 3)) (k : o_Ev X (d + 4) M (pc + 3) L (.int (o_chr i j.toNatClampNeg) :: rest) μ Q) : o_Ev X (d + 4) M pc L (.int j :: .ref (o_aK X i) :: rest) μ Q :=
  s_callT (C := mJ0_charAt_5068e) (As := [.int j]) (rest := rest) (L0 := [some (.ref (o_aK X i)), some (.int j)]) hi rfl cbJ0_charAt_5068e hl sv_J0_charAt_5068e hd rfl rfl (Nat.le_of_ble_eq_true rfl) hrm (t_charAt hi hj) (fun r1 μ1 h => by obtain ⟨rfl, rfl⟩ := h; exact k)
theorem s_strlen0 (hl : Cond.methodLink M.1.cls idx yJ0_length_8abf5 ∈ o_tb) (hrm : (rest.map fun v => v.category).sum ≤ 8) (hd : decode M.2.1 pc = .ok (.invokevirtual idx, 3)) (k : o_Ev X (d + 4) M (pc + 3) L (.int (o_ln 0) :: rest) μ Q) : o_Ev X (d + 4) M pc L (.ref (o_aK X 0) :: rest) μ Q := s_strlen (by decide) hl hrm hd k
theorem s_strlen1 (hl : Cond.methodLink M.1.cls idx yJ0_length_8abf5 ∈ o_tb) (hrm : (rest.map fun v => v.category).sum ≤ 8) (hd : decode M.2.1 pc = .ok (.invokevirtual idx, 3)) (k : o_Ev X (d + 4) M (pc + 3) L (.int (o_ln 1) :: rest) μ Q) : o_Ev X (d + 4) M pc L (.ref (o_aK X 1) :: rest) μ Q := s_strlen (by decide) hl hrm hd k
theorem s_charAt0 {j : Int32} (hl : Cond.methodLink M.1.cls idx yJ0_charAt_5068e ∈ o_tb) (hj : 0 ≤ j.toInt ∧ j.toInt < (o_ln 0).toInt) (hrm : (rest.map fun v => v.category).sum ≤ 8) (hd : decode M.2.1 pc = .ok (.invokevirtual idx, 3)) (k : o_Ev X (d + 4) M (pc + 3) L (.int (o_chr 0 j.toNatClampNeg) :: rest) μ Q) : o_Ev X (d + 4) M pc L (.int j :: .ref (o_aK X 0) :: rest) μ Q := s_charAt (by decide) hl hj hrm hd k
theorem s_charAt1 {j : Int32} (hl : Cond.methodLink M.1.cls idx yJ0_charAt_5068e ∈ o_tb) (hj : 0 ≤ j.toInt ∧ j.toInt < (o_ln 1).toInt) (hrm : (rest.map fun v => v.category).sum ≤ 8) (hd : decode M.2.1 pc = .ok (.invokevirtual idx, 3)) (k : o_Ev X (d + 4) M (pc + 3) L (.int (o_chr 1 j.toNatClampNeg) :: rest) μ Q) : o_Ev X (d + 4) M pc L (.int j :: .ref (o_aK X 1) :: rest) μ Q := s_charAt (by decide) hl hj hrm hd k
end oU
