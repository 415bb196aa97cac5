/-! ===== arguments, and the questions that only read ===== -/
theorem rc0_3 : rfC 0 3 = 1 := by decide
theorem rc0_4 : rfC 0 4 = 10 := by decide
theorem rc0_5 : rfC 0 5 = 30 := by decide
theorem rc0_6 : rfC 0 6 = 50 := by decide
theorem rc0_7 : rfC 0 7 = 55 := by decide
theorem rc0_8 : rfC 0 8 = 60 := by decide
theorem rc0_9 : rfC 0 9 = 61 := by decide
theorem rc0_11 : rfC 0 11 = 137 := by decide
theorem rc0_12 : rfC 0 12 = 139 := by decide
theorem rc0_13 : rfC 0 13 = 140 := by decide
theorem rc0_14 : rfC 0 14 = 142 := by decide
theorem rc0_15 : rfC 0 15 = 144 := by decide
theorem rc0_16 : rfC 0 16 = 145 := by decide
theorem rc0_17 : rfC 0 17 = 148 := by decide
theorem rc0_18 : rfC 0 18 = 156 := by decide
theorem rc10_9 : rfC 10 9 = 11 := by decide
theorem rc10_10 : rfC 10 10 = 12 := by decide
theorem rc10_11 : rfC 10 11 = 13 := by decide
theorem rc10_12 : rfC 10 12 = 14 := by decide
theorem rc10_13 : rfC 10 13 = 15 := by decide
theorem rc10_14 : rfC 10 14 = 16 := by decide
theorem rc10_15 : rfC 10 15 = 17 := by decide
theorem rc10_16 : rfC 10 16 = 23 := by decide
theorem rc10_17 : rfC 10 17 = 29 := by decide
theorem rc30_9 : rfC 30 9 = 31 := by decide
theorem rc30_10 : rfC 30 10 = 32 := by decide
theorem rc30_11 : rfC 30 11 = 33 := by decide
theorem rc30_12 : rfC 30 12 = 34 := by decide
theorem rc30_13 : rfC 30 13 = 35 := by decide
theorem rc30_14 : rfC 30 14 = 36 := by decide
theorem rc30_15 : rfC 30 15 = 37 := by decide
theorem rc30_16 : rfC 30 16 = 43 := by decide
theorem rc30_17 : rfC 30 17 = 49 := by decide
theorem rc17_1 : rfC 17 1 = 18 := by decide
theorem rc17_2 : rfC 17 2 = 19 := by decide
theorem rc17_3 : rfC 17 3 = 20 := by decide
theorem rc17_4 : rfC 17 4 = 21 := by decide
theorem rc17_5 : rfC 17 5 = 22 := by decide
theorem rc23_1 : rfC 23 1 = 24 := by decide
theorem rc23_2 : rfC 23 2 = 25 := by decide
theorem rc23_3 : rfC 23 3 = 26 := by decide
theorem rc23_4 : rfC 23 4 = 27 := by decide
theorem rc23_5 : rfC 23 5 = 28 := by decide
theorem rc37_1 : rfC 37 1 = 38 := by decide
theorem rc37_2 : rfC 37 2 = 39 := by decide
theorem rc37_3 : rfC 37 3 = 40 := by decide
theorem rc37_4 : rfC 37 4 = 41 := by decide
theorem rc37_5 : rfC 37 5 = 42 := by decide
theorem rc43_1 : rfC 43 1 = 44 := by decide
theorem rc43_2 : rfC 43 2 = 45 := by decide
theorem rc43_3 : rfC 43 3 = 46 := by decide
theorem rc43_4 : rfC 43 4 = 47 := by decide
theorem rc43_5 : rfC 43 5 = 48 := by decide
theorem rc149_1 : rfC 149 1 = 150 := by decide
theorem rc149_2 : rfC 149 2 = 151 := by decide
theorem rc149_3 : rfC 149 3 = 152 := by decide
theorem rc149_4 : rfC 149 4 = 153 := by decide
theorem rc149_5 : rfC 149 5 = 154 := by decide
theorem rc50_3 : rfC 50 3 = 51 := by decide
theorem rc50_4 : rfC 50 4 = 52 := by decide
theorem rc50_5 : rfC 50 5 = 53 := by decide
theorem rc50_6 : rfC 50 6 = 54 := by decide
theorem rc55_3 : rfC 55 3 = 56 := by decide
theorem rc55_4 : rfC 55 4 = 57 := by decide
theorem rc55_5 : rfC 55 5 = 58 := by decide
theorem rc55_6 : rfC 55 6 = 59 := by decide
theorem rc137_0 : rfC 137 0 = 138 := by decide
theorem rc139_0 : rfC 139 0 = 137 := by decide
theorem rc139_1 : rfC 139 1 = 30 := by decide
theorem rc140_0 : rfC 140 0 = 137 := by decide
theorem rc140_1 : rfC 140 1 = 10 := by decide
theorem rc140_2 : rfC 140 2 = 55 := by decide
theorem rc140_3 : rfC 140 3 = 141 := by decide
theorem rc142_7 : rfC 142 7 = 143 := by decide
theorem rc145_0 : rfC 145 0 = 146 := by decide
theorem rc145_4 : rfC 145 4 = 147 := by decide
theorem rc148_0 : rfC 148 0 = 149 := by decide
theorem rc148_1 : rfC 148 1 = 155 := by decide
theorem rc156_1 : rfC 156 1 = 157 := by decide
theorem rc156_2 : rfC 156 2 = 158 := by decide
theorem rm_0 (a : Nat) : rfM a 0 = 1 := rfl
theorem rm_1 (a : Nat) : rfM a 1 = 2 := rfl
theorem rm_5 (a : Nat) : rfM a 5 = 3 := rfl
theorem rm_6 (a : Nat) : rfM a 6 = 4 := rfl
theorem rm_7 (a : Nat) : rfM a 7 = 5 := rfl
theorem rm_8 (a : Nat) : rfM a 8 = 6 := rfl
theorem rm_9 (a : Nat) : rfM a 9 = 7 := rfl
theorem rm_21 (a : Nat) : rfM a 21 = 8 := rfl
theorem rm_24 (a : Nat) : rfM a 24 = 9 := rfl
theorem rm_25 (a : Nat) : rfM a 25 = 10 := rfl
theorem rm_26 (a : Nat) : rfM a 26 = 11 := rfl
theorem rm_27 (a : Nat) : rfM a 27 = 12 := rfl
theorem rm_28 (a : Nat) : rfM a 28 = 13 := rfl
theorem rm_29 (a : Nat) : rfM a 29 = 14 := rfl
theorem rm_30 (a : Nat) : rfM a 30 = 15 := rfl
theorem rm_34 (a : Nat) : rfM a 34 = 16 := rfl
theorem rm_35 (a : Nat) : rfM a 35 = 17 := rfl
theorem rm_36 (a : Nat) : rfM a 36 = 18 := rfl
theorem c32_1 : (1 : Int32).toInt = 1 := by decide
theorem c64_1 : (1 : Int64).toInt = 1 := by decide
theorem c32_2 : (2 : Int32).toInt = 2 := by decide
theorem c64_2 : (2 : Int64).toInt = 2 := by decide
theorem c32_3 : (3 : Int32).toInt = 3 := by decide
theorem c64_3 : (3 : Int64).toInt = 3 := by decide
theorem c32_4 : (4 : Int32).toInt = 4 := by decide
theorem c64_4 : (4 : Int64).toInt = 4 := by decide
theorem c32_5 : (5 : Int32).toInt = 5 := by decide
theorem c64_5 : (5 : Int64).toInt = 5 := by decide
theorem c32_6 : (6 : Int32).toInt = 6 := by decide
theorem c64_6 : (6 : Int64).toInt = 6 := by decide
theorem c32_7 : (7 : Int32).toInt = 7 := by decide
theorem c64_7 : (7 : Int64).toInt = 7 := by decide
theorem c32_8 : (8 : Int32).toInt = 8 := by decide
theorem c64_8 : (8 : Int64).toInt = 8 := by decide
theorem c32_9 : (9 : Int32).toInt = 9 := by decide
theorem c64_9 : (9 : Int64).toInt = 9 := by decide
theorem c32_10 : (10 : Int32).toInt = 10 := by decide
theorem c64_10 : (10 : Int64).toInt = 10 := by decide
theorem c32_11 : (11 : Int32).toInt = 11 := by decide
theorem c64_11 : (11 : Int64).toInt = 11 := by decide
theorem c32_12 : (12 : Int32).toInt = 12 := by decide
theorem c64_12 : (12 : Int64).toInt = 12 := by decide
theorem c32_16 : (16 : Int32).toInt = 16 := by decide
theorem c64_16 : (16 : Int64).toInt = 16 := by decide
theorem c32_20 : (20 : Int32).toInt = 20 := by decide
theorem c64_20 : (20 : Int64).toInt = 20 := by decide
theorem c32_30 : (30 : Int32).toInt = 30 := by decide
theorem c64_30 : (30 : Int64).toInt = 30 := by decide
theorem c32_60 : (60 : Int32).toInt = 60 := by decide
theorem c64_60 : (60 : Int64).toInt = 60 := by decide
theorem c32_99 : (99 : Int32).toInt = 99 := by decide
theorem c64_99 : (99 : Int64).toInt = 99 := by decide
theorem c32_100 : (100 : Int32).toInt = 100 := by decide
theorem c64_100 : (100 : Int64).toInt = 100 := by decide
theorem c32_300 : (300 : Int32).toInt = 300 := by decide
theorem c64_300 : (300 : Int64).toInt = 300 := by decide
theorem c32_900 : (900 : Int32).toInt = 900 := by decide
theorem c64_900 : (900 : Int64).toInt = 900 := by decide
theorem c32_9999 : (9999 : Int32).toInt = 9999 := by decide
theorem c64_9999 : (9999 : Int64).toInt = 9999 := by decide
theorem k10 : kdC 10 = .inl 8 := by decide
theorem k30 : kdC 30 = .inl 8 := by decide
abbrev rg (x : Int32) (n : Nat) : Prop := 0 ≤ x.toInt ∧ x.toInt < n
theorem rg_nI {x : Int32} {n : Nat} (h : rg x n) : ∃ k, k < n ∧ k < 2 ^ 31 ∧ x = nI k := by
  have h0 : ¬ x < 0 := by rw [i32_lt, c32_0]; have := h.1; omega
  obtain ⟨k, hk, rfl⟩ := nI_of h0
  have := h.2
  rw [nI_toInt hk] at this
  exact ⟨k, by omega, hk, rfl⟩
theorem nI_sub1 {n : Nat} (h : n < 2 ^ 30) : (nI n - 1).toInt = (n : Int) - 1 := pk_sub_toInt h (b := 1) (by omega)
section ck
variable {v : Nat} {μ : o_Mem} (rf : Nat → Nat → Nat)
theorem e8_isPerson (hw : wfN (bV μ v)) (x : Int32) : fX8_isPerson rf v x μ = some (bI (rg x (cP (bV μ v))), μ) := by
  have e : μ.1 v 2 = nI (cP (bV μ v)) := hw.2.2.1.1
  have b := hw.2.2.1.2
  unfold fX8_isPerson bI
  rw [e]
  simp (disch := omega) only [i32_lt, i32_le, c32_0, nI_toInt]
  repeat' split
  all_goals first | rfl | (exfalso; omega)
theorem e8_isHand (hw : wfN (bV μ v)) (x : Int32) : fX8_isHand rf v x μ = some (bI (rg x (cH (bV μ v))), μ) := by
  have e : μ.1 v 1 = nI (cH (bV μ v)) := hw.2.1.1
  have b := hw.2.1.2
  unfold fX8_isHand bI
  rw [e]
  simp (disch := omega) only [i32_lt, i32_le, c32_0, nI_toInt]
  repeat' split
  all_goals first | rfl | (exfalso; omega)
theorem e8_isStrikeL (hw : wfN (bV μ v)) (x : Int64) : fX8_isStrike rf v x μ = some (bI (0 ≤ x.toInt ∧ x.toInt < cS (bV μ v)), μ) := by
  have e : μ.1 v 0 = nI (cS (bV μ v)) := hw.1.1
  have b := hw.1.2
  unfold fX8_isStrike bI
  rw [e]
  simp (disch := omega) only [i64_lt, i64_le, c64_0, i64_of, nI_toInt]
  repeat' split
  all_goals first | rfl | (exfalso; omega)
theorem e8_isStrike (hw : wfN (bV μ v)) (x : Int32) : fX8_isStrike rf v x.toInt64 μ = some (bI (rg x (cS (bV μ v))), μ) := by
  rw [e8_isStrikeL rf hw]
  simp only [i64_of]
theorem e8_isCouple (hw : wfN (bV μ v)) (p s : Int32) : fX8_isCouple rf v p s μ = some (bI (rg p (cP (bV μ v)) ∧ rg s (cS (bV μ v))), μ) := by
  unfold fX8_isCouple
  rw [e8_isPerson rf hw, p_bd, bI_if, e8_isStrike rf hw, p_bd, bI_if, if_L3]
  exact bI_fin μ
/-- what a LETTER may be -/
abbrev mailP (g : Nat → Nat → Int32) (f t w h : Int32) : Prop := rg f (cP g) ∧ rg t (cP g) ∧ ¬ f = t ∧ (1 ≤ w.toInt ∧ w.toInt ≤ 99) ∧ rg h (cH g)
theorem if_L5 {α : Type} {a b : Prop} [Decidable a] [Decidable b] (X Y : α) : (if a then Y else (if b then X else Y)) = if ¬ a ∧ b then X else Y := if_L4 X Y
theorem e8_isLetter (hw : wfN (bV μ v)) (f t w h : Int32) : fX8_isLetter rf v f t w h μ = some (bI (mailP (bV μ v) f t w h), μ) := by
  unfold fX8_isLetter
  simp only [e8_isPerson rf hw, e8_isHand rf hw, e11_within, p_bd, bI_if, i64_of, c64_1, c64_99]
  by_cases a : rg f (cP (bV μ v))
  · rw [if_pos a]
    by_cases b : rg t (cP (bV μ v))
    · rw [if_pos b]
      by_cases c : f = t
      · rw [if_pos c, bI_f (fun z => z.2.2.1 c)]
      · rw [if_neg c]
        by_cases d : 1 ≤ w.toInt ∧ w.toInt ≤ 99
        · rw [if_pos d]
          by_cases e : rg h (cH (bV μ v))
          · rw [if_pos e, bI_t ⟨a, b, c, d, e⟩]
          · rw [if_neg e, bI_f (fun z => e z.2.2.2.2)]
        · rw [if_neg d, bI_f (fun z => d z.2.2.2.1)]
    · rw [if_neg b, bI_f (fun z => b z.2.1)]
  · rw [if_neg a, bI_f (fun z => a z.1)]
end ck
section cm
variable {g : Nat → Nat → Int32} {μ : o_Mem}
theorem e12_isPerson (hw : wfN g) (hr : vR g (μ.1 1)) (x : Int32) : fX12_isPerson rfM 0 x μ = some (bI (rg x (cP g)), μ) := by
  have e : μ.1 1 2 = nI (cP g) := hr.1.2.2.1.trans hw.2.2.1.1
  have b := hw.2.2.1.2
  unfold fX12_isPerson bI
  rw [rm_0, e]
  simp (disch := omega) only [i32_lt, i32_le, c32_0, nI_toInt]
  repeat' split
  all_goals first | rfl | (exfalso; omega)
theorem e12_isHand (hw : wfN g) (hr : vR g (μ.1 1)) (x : Int32) : fX12_isHand rfM 0 x μ = some (bI (rg x (cH g)), μ) := by
  have e : μ.1 1 1 = nI (cH g) := hr.1.2.1.trans hw.2.1.1
  have b := hw.2.1.2
  unfold fX12_isHand bI
  rw [rm_0, e]
  simp (disch := omega) only [i32_lt, i32_le, c32_0, nI_toInt]
  repeat' split
  all_goals first | rfl | (exfalso; omega)
theorem e12_isLaw (hw : wfN g) (hr : vR g (μ.1 1)) (x : Int32) : fX12_isLaw rfM 0 x μ = some (bI (rg x (cL g)), μ) := by
  have e : μ.1 1 3 = nI (cL g) := hr.1.2.2.2.1.trans hw.2.2.2.1.1
  have b := hw.2.2.2.1.2
  unfold fX12_isLaw bI
  rw [rm_0, e]
  simp (disch := omega) only [i32_lt, i32_le, c32_0, nI_toInt]
  repeat' split
  all_goals first | rfl | (exfalso; omega)
theorem e12_isLetter (hw : wfN g) (hr : vR g (μ.1 1)) (x : Int32) : fX12_isLetter rfM 0 x μ = some (bI (rg x (cW g)), μ) := by
  have e : μ.1 1 4 = nI (cW g) := hr.1.2.2.2.2.1.trans hw.2.2.2.2.1.1
  have b := hw.2.2.2.2.1.2
  unfold fX12_isLetter bI
  rw [rm_0, e]
  simp (disch := omega) only [i32_lt, i32_le, c32_0, nI_toInt]
  repeat' split
  all_goals first | rfl | (exfalso; omega)
theorem e12_isStrikeL (hw : wfN g) (hr : vR g (μ.1 1)) (x : Int64) : fX12_isStrike rfM 0 x μ = some (bI (0 ≤ x.toInt ∧ x.toInt < cS g), μ) := by
  have e : μ.1 1 0 = nI (cS g) := hr.1.1.trans hw.1.1
  have b := hw.1.2
  unfold fX12_isStrike bI
  rw [rm_0, e]
  simp (disch := omega) only [i64_lt, i64_le, c64_0, i64_of, nI_toInt]
  repeat' split
  all_goals first | rfl | (exfalso; omega)
theorem e12_isStrike (hw : wfN g) (hr : vR g (μ.1 1)) (x : Int32) : fX12_isStrike rfM 0 x.toInt64 μ = some (bI (rg x (cS g)), μ) := by
  rw [e12_isStrikeL hw hr]
  simp only [i64_of]
theorem e12_areTwo (hw : wfN g) (hr : vR g (μ.1 1)) (x y : Int32) : fX12_areTwo rfM 0 x y μ = some (bI (rg x (cP g) ∧ rg y (cP g) ∧ ¬ x = y), μ) := by
  unfold fX12_areTwo
  simp only [e12_isPerson hw hr, p_bd, bI_if]
  by_cases h1 : rg x (cP g)
  · by_cases h2 : rg y (cP g)
    · by_cases h3 : x = y
      · rw [if_pos h1, if_pos h2, if_pos h3, bI_f (fun z => z.2.2 h3)]
      · rw [if_pos h1, if_pos h2, if_neg h3, bI_t ⟨h1, h2, h3⟩]
    · rw [if_pos h1, if_neg h2, bI_f (fun z => h2 z.2.1)]
  · rw [if_neg h1, bI_f (fun z => h1 z.1)]
theorem e12_isWeight (x : Int32) : fX12_isWeight rfM x.toInt64 μ = some (bI (1 ≤ x.toInt ∧ x.toInt ≤ 99), μ) := by
  unfold fX12_isWeight bI
  simp only [i64_lt, i64_of, c64_1, c64_99]
  repeat' split
  all_goals first | rfl | (exfalso; omega)
theorem e12_isMail (hw : wfN g) (hr : vR g (μ.1 1)) (f t w h : Int32) : fX12_isMail rfM 0 f t w h μ = some (bI (mailP g f t w h), μ) := by
  unfold fX12_isMail
  simp only [e12_areTwo hw hr, e12_isWeight, e12_isHand hw hr, p_bd, bI_if, if_L3]
  rw [bI_fin μ]
  refine congrArg some (Prod.ext (bI_cong ?_) rfl)
  exact ⟨fun ⟨⟨a, b, c⟩, d, e⟩ => ⟨a, b, c, d, e⟩, fun ⟨a, b, c, d, e⟩ => ⟨⟨a, b, c⟩, d, e⟩⟩
end cm
theorem Inv_v {μC μM : o_Mem} (h : Inv μC μM) : wfV (bV μC 10) ∧ vR (bV μC 10) (μM.1 1) := ⟨h.2.2.2.2.1.1, by rw [← mS_0]; exact h.2.2.2.2.1.2.1⟩
theorem eq2_st {ρ : Type} {μC μM : o_Mem} {a b : Option (ρ × o_Mem)} (h : Inv μC μM) (r : ρ) (s : Int32) (ha : a = some (r, o_wI μC 0 0 s)) (hb : b = some (r, o_wI μM 0 2 s)) : o_Eq2 a b Inv := ⟨r, _, _, ha, hb, Inv_st s h⟩
theorem eq2_id {ρ : Type} {μC μM : o_Mem} {a b : Option (ρ × o_Mem)} (h : Inv μC μM) (r : ρ) (ha : a = some (r, μC)) (hb : b = some (r, μM)) : o_Eq2 a b Inv := ⟨r, _, _, ha, hb, h⟩
theorem e11_any' (rf : Nat → Nat → Nat) (a : Nat) (μ : o_Mem) (x : Int32) : fX11_givesIfAny rf a x μ = some (x, o_wI μ a 0 (if x = -1 then 6 else 0)) := by
  rw [e11_any]
  by_cases h : x = -1
  · rw [if_pos h, if_pos h, h]
  · rw [if_neg h, if_neg h]
theorem e12_any' (rf : Nat → Nat → Nat) (a : Nat) (μ : o_Mem) (x : Int32) : fX12_orNone rf a x μ = some (x, o_wI μ a 2 (if x = -1 then 6 else 0)) := by
  rw [e12_orNone]
  by_cases h : x = -1
  · rw [if_pos h, if_pos h, h]
  · rw [if_neg h, if_neg h]
section pu
variable {μC μM : o_Mem}
theorem pu_status (h : Inv μC μM) : o_Eq2 (fX11_status rfC 0 μC) (fX12_status rfM 0 μM) Inv := eq2_id h (μC.1 0 0) rfl (by rw [h.1.1]; rfl)
theorem pu_top (h : Inv μC μM) : o_Eq2 (fX11_top rfC 0 μC) (fX12_top rfM 0 μM) Inv := eq2_id h (μC.2 0 1) rfl (by rw [h.1.2.1]; rfl)
theorem pu_bottom (h : Inv μC μM) : o_Eq2 (fX11_bottom rfC 0 μC) (fX12_bottom rfM 0 μM) Inv := eq2_id h (μC.2 0 2) rfl (by rw [h.1.2.2]; rfl)
theorem pu_fault (h : Inv μC μM) (x : Int32) : o_Eq2 (fX11_fault rfC 0 x μC) (fX12_fault rfM 0 x μM) Inv := by
  obtain ⟨-, -, -, ⟨e1, e2⟩, -⟩ := id h
  unfold fX11_fault fX12_fault
  rw [rc0_11, e1, e2]
  by_cases h0 : x = 0
  · rw [if_pos h0, if_pos h0]; exact eq2_id h _ rfl rfl
  · rw [if_neg h0, if_neg h0]
    by_cases h1 : x = 1
    · rw [if_pos h1, if_pos h1]; exact eq2_id h _ rfl rfl
    · rw [if_neg h1, if_neg h1]; exact eq2_id h _ rfl rfl
theorem pu_lawOf (h : Inv μC μM) (f t w k : Int32) : o_Eq2 (fX11_lawOf rfC 0 f t w k μC) (fX12_lawOf rfM 0 f t w k μM) Inv := by
  obtain ⟨hw, hr⟩ := Inv_v h
  unfold fX11_lawOf fX12_lawOf
  simp only [rc0_4, e8_isLetter rfC hw.1, e12_isMail hw.1 hr, p_bd, bI_if, e8_firstFit k10 f t w k μC hw.1, e12_firstLaw f t w k hw.1 hr, e11_any', e12_any', e11_refuses, e12_refuse]
  by_cases hm : mailP (bV μC 10) f t w k
  · rw [if_pos hm, if_pos hm]; exact eq2_st h _ _ rfl rfl
  · rw [if_neg hm, if_neg hm]; exact eq2_st h _ _ rfl rfl
theorem pu_strikeOf (h : Inv μC μM) (f t w k : Int32) : o_Eq2 (fX11_strikeOf rfC 0 f t w k μC) (fX12_strikeOf rfM 0 f t w k μM) Inv := by
  obtain ⟨hw, hr⟩ := Inv_v h
  unfold fX11_strikeOf fX12_strikeOf
  simp only [rc0_4, e8_isLetter rfC hw.1, e12_isMail hw.1 hr, p_bd, bI_if, e8_sober k10 f t w k μC hw.1, e12_sober f t w k hw.1 hr, e11_any', e12_any', e11_refuses, e12_refuse]
  by_cases hm : mailP (bV μC 10) f t w k
  · rw [if_pos hm, if_pos hm]; exact eq2_st h _ _ rfl rfl
  · rw [if_neg hm, if_neg hm]; exact eq2_st h _ _ rfl rfl
theorem pu_struckNow (h : Inv μC μM) (f t w k : Int32) : o_Eq2 (fX11_struckNow rfC 0 f t w k μC) (fX12_struckNow rfM 0 f t w k μM) Inv := by
  obtain ⟨hw, hr⟩ := Inv_v h
  have hd := hw.2.2.2.1
  unfold fX11_struckNow fX12_struckNow fX11_struckNow_j60
  simp only [rc0_4, e8_isLetter rfC hw.1, e12_isMail hw.1 hr, p_bd, bI_if, e8_sober k10 f t w k μC hw.1, e12_struck f t w k hw hr, e8_behind, e11_any', e12_any', e11_refuses, e12_refuse]
  by_cases hm : mailP (bV μC 10) f t w k
  · rw [if_pos hm, if_pos hm]
    rcases hd with hd | hd
    · rw [if_pos (show μC.1 10 6 = 0 from hd), show stk (bV μC 10) f t w k = sob (bV μC 10) f t w k from if_neg (by rw [hd]; decide)]; exact eq2_st h _ _ rfl rfl
    · rw [if_neg (by rw [show μC.1 10 6 = 1 from hd]; decide), show stk (bV μC 10) f t w k = drk (bV μC 10) (sob (bV μC 10) f t w k) from if_pos hd]; exact eq2_st h _ _ rfl rfl
  · rw [if_neg hm, if_neg hm]; exact eq2_st h _ _ rfl rfl
end pu
