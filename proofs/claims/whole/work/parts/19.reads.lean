/-! ===== questions that read one number ===== -/
theorem nI_add' (a b : Nat) : nI a + nI b = nI (a + b) := nI_add a b
section rd
variable {μC μM : o_Mem}
theorem pu_worth (h : Inv μC μM) (x : Int32) : o_Eq2 (fX11_worth rfC 0 x μC) (fX12_worth rfM 0 x μM) Inv := by
  obtain ⟨hw, hr⟩ := Inv_v h
  have b := hw.1.1.2
  unfold fX11_worth fX12_worth fX12_strikeRow
  simp only [rc0_4, rc10_9, rm_0, e8_isStrike rfC hw.1, e12_isStrike hw.1 hr, p_bd, bI_if, e11_gives, e12_gives, e11_refuses, e12_refuse]
  by_cases hx : rg x (cS (bV μC 10))
  · rw [if_pos hx, if_pos hx]
    obtain ⟨k, hk, hk2, rfl⟩ := rg_nI hx
    simp (disch := omega) only [mL_2, aL_13, nI_toInt, nI_clamp, p_ck]
    rw [(hr.2.1 k hk).1]
    exact eq2_st h _ _ rfl rfl
  · rw [if_neg hx, if_neg hx]; exact eq2_st h _ _ rfl rfl
theorem pu_strikes (h : Inv μC μM) (x : Int32) : o_Eq2 (fX11_strikes rfC 0 x μC) (fX12_strikes rfM 0 x μM) Inv := by
  obtain ⟨hw, hr⟩ := Inv_v h
  have b := hw.1.1.2
  unfold fX11_strikes fX12_strikes fX12_strikeRow
  simp only [rc0_4, rc10_10, rm_0, e8_isStrike rfC hw.1, e12_isStrike hw.1 hr, p_bd, bI_if, e11_gives, e12_gives, e11_refuses, e12_refuse]
  by_cases hx : rg x (cS (bV μC 10))
  · rw [if_pos hx, if_pos hx]
    obtain ⟨k, hk, hk2, rfl⟩ := rg_nI hx
    simp (disch := omega) only [mL_2, aL_13, aR_1, nI_toInt, nI_clamp, p_ck]
    rw [show 13 + 2 * k + 1 = 14 + 2 * k by omega, (hr.2.1 k hk).2]
    exact eq2_st h _ _ rfl rfl
  · rw [if_neg hx, if_neg hx]; exact eq2_st h _ _ rfl rfl
theorem pu_hand (h : Inv μC μM) (x : Int32) : o_Eq2 (fX11_hand rfC 0 x μC) (fX12_hand rfM 0 x μM) Inv := by
  obtain ⟨hw, hr⟩ := Inv_v h
  have b := hw.1.2.2.1.2
  unfold fX11_hand fX12_hand fX12_handOf
  simp only [rc0_4, rc10_11, rm_0, e8_isPerson rfC hw.1, e12_isPerson hw.1 hr, p_bd, bI_if, e11_gives, e12_gives, e11_refuses, e12_refuse]
  by_cases hx : rg x (cP (bV μC 10))
  · rw [if_pos hx, if_pos hx]
    obtain ⟨k, hk, hk2, rfl⟩ := rg_nI hx
    simp (disch := omega) only [aL_25, nI_toInt, nI_clamp, p_ck, p_bd, e12_gives]
    rw [hr.2.2.1 k hk]
    exact eq2_st h _ _ rfl rfl
  · rw [if_neg hx, if_neg hx]; exact eq2_st h _ _ rfl rfl
theorem pu_law (h : Inv μC μM) (x y : Int32) : o_Eq2 (fX11_law rfC 0 x y μC) (fX12_law rfM 0 x y μM) Inv := by
  obtain ⟨hw, hr⟩ := Inv_v h
  have b := hw.1.2.2.2.1.2
  have e : μC.1 10 3 = nI (cL (bV μC 10)) := hw.1.2.2.2.1.1
  unfold fX11_law fX12_law fX11_law_j31 fX12_law_j35 fX12_lawRow
  simp only [rc0_4, rc10_12, rm_0, e11_within, e12_isLaw hw.1 hr, p_bd, bI_if, e11_any', e12_any', e11_refuses, e12_refuse, i64_of, c64_0, c64_5, e, nI_sub1 (show cL (bV μC 10) < 2 ^ 30 by omega), i32_lt, c32_0, c32_5]
  by_cases hx : rg x (cL (bV μC 10))
  · rw [if_pos (show 0 ≤ x.toInt ∧ x.toInt ≤ (cL (bV μC 10) : Int) - 1 by omega), if_pos hx]
    by_cases hy : rg y 6
    · rw [if_pos (show 0 ≤ y.toInt ∧ y.toInt ≤ 5 by omega), if_neg (show ¬ y.toInt < 0 by omega), if_neg (show ¬ 5 < y.toInt by omega)]
      obtain ⟨k, hk, hk2, rfl⟩ := rg_nI hx
      obtain ⟨j, hj, hj2, rfl⟩ := rg_nI hy
      simp (disch := omega) only [mR_6, mL_6, aL_31, nI_add', nI_toInt, nI_clamp, p_ck, p_bd, e11_any', e12_any']
      rw [vR_law hr hk j hj, show k * 6 + j = 6 * k + j by omega]
      exact eq2_st h _ _ rfl rfl
    · rw [if_neg (show ¬ (0 ≤ y.toInt ∧ y.toInt ≤ 5) by omega)]
      by_cases h0 : y.toInt < 0
      · rw [if_pos h0]; exact eq2_st h _ _ rfl rfl
      · rw [if_neg h0, if_pos (show 5 < y.toInt by omega)]; exact eq2_st h _ _ rfl rfl
  · rw [if_neg (show ¬ (0 ≤ x.toInt ∧ x.toInt ≤ (cL (bV μC 10) : Int) - 1) by omega), if_neg hx]; exact eq2_st h _ _ rfl rfl
theorem pu_acts (h : Inv μC μM) (x y z : Int32) : o_Eq2 (fX11_acts rfC 0 x y z μC) (fX12_acts rfM 0 x y z μM) Inv := by
  obtain ⟨hw, hr⟩ := Inv_v h
  have b1 := hw.1.1.2
  have b2 := hw.1.2.2.1.2
  unfold fX11_acts fX12_acts fX11_acts_j22 fX12_acts_j26 fX11_acts_j64 fX12_actRow
  simp only [rc0_4, rc10_13, rc10_14, rm_0, e11_within, e8_isCouple rfC hw.1, e12_isPerson hw.1 hr, e12_isStrike hw.1 hr, p_bd, bI_if, e11_any', e12_gives, e11_refuses, e12_refuse, i64_of, c64_0, c64_1, i32_lt, i32_le, c32_0, c32_1]
  by_cases hx : rg x (cP (bV μC 10))
  · by_cases hy : rg y (cS (bV μC 10))
    · rw [if_pos ⟨hx, hy⟩, if_pos hx, if_pos hy]
      by_cases hz : rg z 2
      · rw [if_pos (show 0 ≤ z.toInt ∧ z.toInt ≤ 1 by omega), if_neg (show ¬ z.toInt < 0 by omega), if_pos (show z.toInt ≤ 1 by omega)]
        obtain ⟨k, hk, hk2, rfl⟩ := rg_nI hx
        obtain ⟨j, hj, hj2, rfl⟩ := rg_nI hy
        obtain ⟨i, hi, hi2, rfl⟩ := rg_nI hz
        have hv := hr.2.2.2.2.1 k j hk hj
        have ho := hw.2.2.2.2.2.2.1 k j hk hj
        have hq := hw.2.2.2.2.2.2.2.1 k j hk hj
        simp (disch := omega) only [mR_6, mL_6, mL_2, aL_79, nI_add', nI_toInt, nI_clamp, p_ck, p_bd, e11_any', e12_gives, e12_refuse]
        rw [hv.1, show k * 6 + j = 6 * k + j by omega]
        have e5 : μC.1 15 (6 * k + j) = bV μC 10 5 (6 * k + j) := rfl
        have e6 : μC.1 16 (6 * k + j) = bV μC 10 6 (6 * k + j) := rfl
        rw [e5, e6]
        by_cases hn : bV μC 10 5 (6 * k + j) = -1
        · rw [hq hn, if_pos hn, hn, if_pos rfl]
          split
          · exact eq2_st h _ _ rfl rfl
          · exact eq2_st h _ _ rfl rfl
        · rw [if_neg hn, if_neg hn]
          have hw6 : ¬ bV μC 10 6 (6 * k + j) = -1 := by
            rcases ho with ho | ho
            · exact absurd ho hn
            · intro q; have := ho.2.1; rw [q, c32_m1] at this; omega
          rcases (show i = 0 ∨ i = 1 by omega) with rfl | rfl
          · rw [if_pos (show nI 0 = 0 from rfl), Nat.add_zero, hv.1]; exact eq2_st h _ _ rfl rfl
          · rw [if_neg (show ¬ nI 1 = 0 by decide), show 79 + 2 * (6 * k + j) + 1 = 80 + 2 * (6 * k + j) by omega, hv.2 hn, if_neg hw6]; exact eq2_st h _ _ rfl rfl
      · rw [if_neg (show ¬ (0 ≤ z.toInt ∧ z.toInt ≤ 1) by omega)]
        by_cases h0 : z.toInt < 0
        · rw [if_pos h0]; exact eq2_st h _ _ rfl rfl
        · rw [if_neg h0, if_neg (show ¬ z.toInt ≤ 1 by omega)]; exact eq2_st h _ _ rfl rfl
    · rw [if_neg (fun q => hy q.2), if_pos hx, if_neg hy]; exact eq2_st h _ _ rfl rfl
  · rw [if_neg (fun q => hx q.1), if_neg hx]; exact eq2_st h _ _ rfl rfl
theorem pu_lived (h : Inv μC μM) (x : Int32) : o_Eq2 (fX11_lived rfC 0 x μC) (fX12_lived rfM 0 x μM) Inv := by
  have h7 := h.2.2.2.2.2.2
  unfold fX11_lived fX12_lived fX12_lived_j9
  simp only [rc0_15, rm_36, e11_within, p_bd, bI_if, e11_gives, e12_gives, e11_refuses, e12_refuse, i64_of, c64_0, c64_4, i32_lt, i32_le, c32_0, c32_4]
  by_cases hx : rg x 5
  · rw [if_pos (show 0 ≤ x.toInt ∧ x.toInt ≤ 4 by omega), if_neg (show ¬ x.toInt < 0 by omega), if_pos (show x.toInt ≤ 4 by omega)]
    rcases h7 with ⟨e1, e2⟩ | ⟨e1, e2, e3⟩
    · rw [if_pos e1, if_pos e2]; exact eq2_st h _ _ rfl rfl
    · obtain ⟨k, hk, hk2, rfl⟩ := rg_nI hx
      rw [if_neg e1, if_neg (by rw [e2]; decide)]
      simp (disch := omega) only [nI_toInt, nI_clamp, p_ck]
      rw [e3 k hk]
      exact eq2_st h _ _ rfl rfl
  · rw [if_neg (show ¬ (0 ≤ x.toInt ∧ x.toInt ≤ 4) by omega)]
    by_cases h0 : x.toInt < 0
    · rw [if_pos h0]; exact eq2_st h _ _ rfl rfl
    · rw [if_neg h0, if_neg (show ¬ x.toInt ≤ 4 by omega)]; exact eq2_st h _ _ rfl rfl
end rd
