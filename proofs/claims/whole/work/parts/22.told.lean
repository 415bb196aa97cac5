/-! ===== told, lawsUsed ===== -/
theorem e8_worthAll {v : Nat} (hv : kdC v = .inl 8) {μ : o_Mem} (hw : wfN (bV μ v)) : fX8_worthOfAll rfC v μ = some (wsum (bV μ v) (cS (bV μ v)), μ) := by
  have e : μ.1 v 0 = nI (cS (bV μ v)) := hw.1.1
  have b := hw.1.2
  have r9 : rfC v 9 = v + 1 := by rw [rf8 hv]; rfl
  have r10 : rfC v 10 = v + 2 := by rw [rf8 hv]; rfl
  have key := lp_acc (head := 4) (e := 34) (step := fX8_worthOfAll_s4 rfC v) (μ := μ) (fun k a => a + bV μ v 2 k * bV μ v 1 k) (N := cS (bV μ v)) (k0 := 0) (fun l _ hl a => by
      unfold fX8_worthOfAll_s4
      rw [e, if_neg (nI_ge hl (by omega))]
      simp (disch := omega) only [r9, r10, nI_toInt, nI_clamp, p_ck, aR_1]
      rfl)
    (fun a => by unfold fX8_worthOfAll_s4; rw [e, if_pos (nI_le (Nat.le_refl _) (by omega))]) (by decide) (cS (bV μ v)) 0 0 (Nat.le_refl _) (by omega)
  have hs : ∀ n, accN (fun k a => a + bV μ v 2 k * bV μ v 1 k) n 0 0 = wsum (bV μ v) n := fun n => by
    induction n with
    | zero => rfl
    | succ n ih => rw [accN_succ, ih, Nat.zero_add]; rfl
  unfold fX8_worthOfAll
  rw [show o_lp 4 (fX8_worthOfAll_s4 rfC v) o_fuel (0, 0) μ = _ from p_lp key (by omega), hs, p_bd]
  rfl
section tl
variable {μC μM : o_Mem}
theorem pu_told (h : Inv μC μM) (x : Int32) : o_Eq2 (fX11_told rfC 0 x μC) (fX12_told rfM 0 x μM) Inv := by
  obtain ⟨hw, hr⟩ := Inv_v h
  unfold fX11_told fX12_told fX12_told_j10
  simp only [i32_lt, i32_le, c32_0, c32_11, rm_0]
  by_cases hx : rg x 12
  · rw [if_neg (show ¬ x.toInt < 0 by omega), if_pos (show x.toInt ≤ 11 by omega)]
    obtain ⟨k, hk, hk2, rfl⟩ := rg_nI hx
    rw [p_ck _ (show 0 ≤ (nI k).toInt ∧ (nI k).toInt < 3756 by rw [nI_toInt hk2]; omega), nI_clamp hk2, e12_gives, p_bd]
    unfold fX11_told_j182
    rcases (show k = 0 ∨ k = 1 ∨ k = 2 ∨ k = 3 ∨ k = 4 ∨ k = 5 ∨ k = 6 ∨ k = 7 ∨ k = 8 ∨ k = 9 ∨ k = 10 ∨ k = 11 by omega) with rfl | rfl | rfl | rfl | rfl | rfl | rfl | rfl | rfl | rfl | rfl | rfl
    · rw [if_pos (by decide)]
      rw [show μM.1 1 0 = μC.1 10 0 from hr.1.1]
      simp only [rc0_4, rc10_15, rc10_16, e11_gives, p_bd]
      exact eq2_st h _ _ rfl rfl
    · rw [if_neg (by decide), if_pos (by decide)]
      rw [show μM.1 1 1 = μC.1 10 1 from hr.1.2.1]
      simp only [rc0_4, rc10_15, rc10_16, e11_gives, p_bd]
      exact eq2_st h _ _ rfl rfl
    · rw [if_neg (by decide), if_neg (by decide), if_pos (by decide)]
      rw [show μM.1 1 2 = μC.1 10 2 from hr.1.2.2.1]
      simp only [rc0_4, rc10_15, rc10_16, e11_gives, p_bd]
      exact eq2_st h _ _ rfl rfl
    · rw [if_neg (by decide), if_neg (by decide), if_neg (by decide), if_pos (by decide)]
      rw [show μM.1 1 3 = μC.1 10 3 from hr.1.2.2.2.1]
      simp only [rc0_4, rc10_15, rc10_16, e11_gives, p_bd]
      exact eq2_st h _ _ rfl rfl
    · rw [if_neg (by decide), if_neg (by decide), if_neg (by decide), if_neg (by decide), if_pos (by decide)]
      rw [show μM.1 1 4 = μC.1 17 0 from hr.1.2.2.2.2.1]
      simp only [rc0_4, rc10_15, rc10_16, e11_gives, p_bd]
      exact eq2_st h _ _ rfl rfl
    · rw [if_neg (by decide), if_neg (by decide), if_neg (by decide), if_neg (by decide), if_neg (by decide), if_pos (by decide)]
      rw [show μM.1 1 5 = μC.1 23 0 from hr.1.2.2.2.2.2.1]
      simp only [rc0_4, rc10_15, rc10_16, e11_gives, p_bd]
      exact eq2_st h _ _ rfl rfl
    · rw [if_neg (by decide), if_neg (by decide), if_neg (by decide), if_neg (by decide), if_neg (by decide), if_neg (by decide), if_pos (by decide)]
      rw [show μM.1 1 6 = μC.1 10 4 from hr.1.2.2.2.2.2.2.1]
      simp only [rc0_4, rc10_15, rc10_16, e11_gives, p_bd]
      exact eq2_st h _ _ rfl rfl
    · rw [if_neg (by decide), if_neg (by decide), if_neg (by decide), if_neg (by decide), if_neg (by decide), if_neg (by decide), if_neg (by decide), if_pos (by decide)]
      rw [show μM.1 1 7 = μC.1 10 5 from hr.1.2.2.2.2.2.2.2.1]
      simp only [rc0_4, rc10_15, rc10_16, e11_gives, p_bd]
      exact eq2_st h _ _ rfl rfl
    · rw [if_neg (by decide), if_neg (by decide), if_neg (by decide), if_neg (by decide), if_neg (by decide), if_neg (by decide), if_neg (by decide), if_neg (by decide), if_pos (by decide)]
      rw [show μM.1 1 8 = μC.1 10 6 from hr.1.2.2.2.2.2.2.2.2.1]
      simp only [rc0_4, e11_gives, p_bd]
      rcases hw.2.2.2.1 with hd | hd
      · rw [if_pos (show μC.1 10 6 = 0 from hd), show μC.1 10 6 = 0 from hd]; exact eq2_st h _ _ rfl rfl
      · rw [if_neg (by rw [show μC.1 10 6 = 1 from hd]; decide), show μC.1 10 6 = 1 from hd]; exact eq2_st h _ _ rfl rfl
    · rw [if_neg (by decide), if_neg (by decide), if_neg (by decide), if_neg (by decide), if_neg (by decide), if_neg (by decide), if_neg (by decide), if_neg (by decide), if_neg (by decide), if_pos (by decide)]
      rw [show μM.1 1 9 = μC.1 10 7 from hr.1.2.2.2.2.2.2.2.2.2.1]
      simp only [rc0_4, rc10_15, rc10_16, e11_gives, p_bd]
      exact eq2_st h _ _ rfl rfl
    · rw [if_neg (by decide), if_neg (by decide), if_neg (by decide), if_neg (by decide), if_neg (by decide), if_neg (by decide), if_neg (by decide), if_neg (by decide), if_neg (by decide), if_neg (by decide), if_pos (by decide)]
      rw [show μM.1 1 10 = μC.1 10 8 from hr.1.2.2.2.2.2.2.2.2.2.2.1]
      simp only [rc0_4, rc10_15, rc10_16, e11_gives, p_bd]
      exact eq2_st h _ _ rfl rfl
    · rw [if_neg (by decide), if_neg (by decide), if_neg (by decide), if_neg (by decide), if_neg (by decide), if_neg (by decide), if_neg (by decide), if_neg (by decide), if_neg (by decide), if_neg (by decide), if_neg (by decide), if_pos (by decide)]
      rw [show μM.1 1 11 = wsum (bV μC 10) (cS (bV μC 10)) from hr.1.2.2.2.2.2.2.2.2.2.2.2, rc0_4, e8_worthAll k10 hw.1]
      simp only [e11_gives, p_bd]
      exact eq2_st h _ _ rfl rfl
  · have hm : (if x.toInt < 0 then o_bd (fX12_refuse rfM 0 1 μM) fun r1 μ1 => some (r1, μ1) else if x.toInt ≤ 11 then o_ck (0 ≤ x.toInt ∧ x.toInt < 3756) (o_bd (fX12_gives rfM 0 (μM.1 1 x.toNatClampNeg) μM) fun r1 μ1 => some (r1, μ1)) else o_bd (fX12_refuse rfM 0 1 μM) fun r1 μ1 => some (r1, μ1)) = some (-1, o_wI μM 0 2 1) := by
      by_cases h0 : x.toInt < 0
      · rw [if_pos h0]; rfl
      · rw [if_neg h0, if_neg (by omega)]; rfl
    rw [hm, if_neg (by rw [i32_eq, c32_0]; omega), if_neg (by rw [i32_eq, c32_1]; omega), if_neg (by rw [i32_eq, c32_2]; omega), if_neg (by rw [i32_eq, c32_3]; omega), if_neg (by rw [i32_eq, c32_4]; omega), if_neg (by rw [i32_eq, c32_5]; omega), if_neg (by rw [i32_eq, c32_6]; omega), if_neg (by rw [i32_eq, c32_7]; omega), if_neg (by rw [i32_eq, c32_8]; omega), if_neg (by rw [i32_eq, c32_9]; omega), if_neg (by rw [i32_eq, c32_10]; omega), if_neg (by rw [i32_eq, c32_11]; omega)]
    exact eq2_st h _ _ rfl rfl
/-- bits of a small number, counted both ways -/
def bitsN : Nat → Int32 → Int32 → Option Int32
  | 0, _, _ => none
  | n + 1, c, x => if x = 0 then some c else bitsN n (c + 1) (x &&& (x - 1))
theorem bits_lp (rf : Nat → Nat → Nat) (μ : o_Mem) : ∀ (n : Nat) (c x r : Int32), bitsN n c x = some r → o_lp 4 (fX12_bits_s4 rf) n (c, x) μ = some ((20, (r, 0)), μ)
  | 0, _, _, _, h => by cases h
  | n + 1, c, x, r, h => by
    unfold bitsN at h
    by_cases hx : x = 0
    · rw [if_pos hx] at h
      cases h
      refine p_lp_exit ?_ (by decide)
      unfold fX12_bits_s4
      rw [if_pos (show (c, x).2 = 0 from hx)]
    · rw [if_neg hx] at h
      have hs : fX12_bits_s4 rf (c, x) μ = some ((4, (c + 1, x &&& (x - 1))), μ) := by
        unfold fX12_bits_s4
        rw [if_neg (show ¬ (c, x).2 = 0 from hx)]
      rw [p_lp_next hs]
      exact bits_lp rf μ n _ _ r h
noncomputable def bcE (x0 : Int32) : Int32 := match fJ6_bitCount_0f7a4 rfM x0 (fun _ _ => 0, fun _ _ => 0) with
  | none => 0
  | some r => r.1
theorem bcE_eq (rf : Nat → Nat → Nat) (x : Int32) (μ : o_Mem) : fJ6_bitCount_0f7a4 rf x μ = some (bcE x, μ) := rfl
theorem bits_all : ∀ k, k < 256 → bitsN 9 0 (nI k) = some (bcE (nI k)) := by decide +kernel
theorem e12_bits {k : Nat} (hk : k < 256) (rf : Nat → Nat → Nat) (μ : o_Mem) : fX12_bits rf (nI k) μ = some (bcE (nI k), μ) := by
  unfold fX12_bits
  rw [p_lp (bits_lp rf μ 9 0 (nI k) _ (bits_all k hk)) (by omega), p_bd]
  rfl
end tl
