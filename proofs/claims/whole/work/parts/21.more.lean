/-! ===== more questions: weightAt, letter, cover, told, brother, lawsUsed, sure ===== -/
theorem accN_succ (F : Nat → Int32 → Int32) : ∀ (n k : Nat) (a : Int32), accN F (n + 1) k a = F (k + n) (accN F n k a)
  | 0, k, a => rfl
  | n + 1, k, a => by
    show accN F (n + 1) (k + 1) (F k a) = F (k + (n + 1)) (accN F n (k + 1) (F k a))
    rw [accN_succ F n (k + 1), show k + 1 + n = k + (n + 1) by omega]
def fWat (p : Nat → Bool) (x : Int32) (k : Nat) (a : Int32) : Int32 := if p k then (if a = -1 then nI k else if x = 1 then nI k else a) else a
theorem wat_stay (p : Nat → Bool) {x : Int32} (hx : ¬ x = 1) : ∀ (n k : Nat) (a : Int32), ¬ a = -1 → accN (fWat p x) n k a = a
  | 0, _, _, _ => rfl
  | n + 1, k, a, ha => by
    have e : fWat p x k a = a := by
      unfold fWat
      rw [if_neg ha, if_neg hx]
      split <;> rfl
    show accN (fWat p x) n (k + 1) (fWat p x k a) = a
    rw [e]
    exact wat_stay p hx n (k + 1) a ha
theorem wat_first (p : Nat → Bool) {x : Int32} (hx : ¬ x = 1) : ∀ (n k : Nat), k + n < 2 ^ 31 → accN (fWat p x) n k (-1) = oI (fstN p n k)
  | 0, _, _ => rfl
  | n + 1, k, hk => by
    show accN (fWat p x) n (k + 1) (fWat p x k (-1)) = _
    by_cases hp : p k = true
    · have e : fWat p x k (-1) = nI k := by unfold fWat; rw [if_pos hp, if_pos rfl]
      rw [e, wat_stay p hx n (k + 1) _ (nI_nm1 (by omega))]
      simp only [fstN, hp]
      rfl
    · have e : fWat p x k (-1) = -1 := by unfold fWat; rw [if_neg hp]
      have h9 : p k = false := by simpa using hp
      rw [e, wat_first p hx n (k + 1) (by omega)]
      simp only [fstN, h9]
      rfl
def oI1 (o : Option Nat) : Int32 := match o with
  | none => -1
  | some k => nI (k + 1)
theorem wat_last (p : Nat → Bool) : ∀ (n : Nat), accN (fWat p 1) n 1 (-1) = oI1 (lstN (fun j => p (j + 1)) n)
  | 0 => rfl
  | n + 1 => by
    rw [accN_succ, wat_last p n]
    unfold fWat
    by_cases hp : p (1 + n) = true
    · have h9 : p (n + 1) = true := by rw [Nat.add_comm]; exact hp
      rw [if_pos hp, if_pos rfl]
      simp only [lstN, h9]
      rw [show 1 + n = n + 1 by omega]
      split <;> rfl
    · have h9 : p (n + 1) = false := by rw [Nat.add_comm]; simpa using hp
      rw [if_neg hp]
      simp only [lstN, h9]
      rfl
theorem e8_heaviest {v : Nat} (hv : kdC v = .inl 8) {μ : o_Mem} (hw : wfN (bV μ v)) (f t h s : Int32) : fX8_heaviest rfC v f t h s μ = some (oI1 (lstN (fun j => pW (bV μ v) f t h s (j + 1)) 99), μ) := by
  have key : ∀ l, l ≤ 99 → o_lp 4 (fX8_heaviest_s4 rfC v f t h s) (l + 1) (nI l) μ = some (match lstN (fun j => pW (bV μ v) f t h s (j + 1)) l with | none => (33, 0) | some k => (24, nI (k + 1)), μ) := by
    intro l
    induction l with
    | zero =>
      intro _
      refine p_lp_exit ?_ (by decide)
      unfold fX8_heaviest_s4
      rw [if_pos (by decide)]
      try rfl
    | succ l ih =>
      intro hl
      have hs : fX8_heaviest_s4 rfC v f t h s (nI (l + 1)) μ = some (if pW (bV μ v) f t h s (l + 1) then (24, nI (l + 1)) else (4, nI l), μ) := by
        unfold fX8_heaviest_s4
        rw [if_neg (by rw [i32_lt, c32_1, nI_toInt (by omega)]; omega), e8_sober hv f t _ h μ hw, p_bd, nI_m1, nI_pred]
        by_cases hp : sob (bV μ v) f t (nI (l + 1)) h = s
        · rw [if_pos hp, if_pos (pW_t.mpr hp)]
        · rw [if_neg hp, if_neg (fun z => hp (pW_t.mp z))]
      by_cases hp : pW (bV μ v) f t h s (l + 1) = true
      · rw [if_pos hp] at hs
        rw [p_lp_exit hs (by decide)]
        simp only [lstN, hp]
        rfl
      · rw [if_neg hp] at hs
        have h9 : pW (bV μ v) f t h s (l + 1) = false := by simpa using hp
        rw [p_lp_next hs, ih (by omega)]
        simp only [lstN, h9]
        rfl
  unfold fX8_heaviest
  rw [show o_lp 4 (fX8_heaviest_s4 rfC v f t h s) o_fuel 99 μ = _ from p_lp (key 99 (by omega)) (by omega)]
  cases lstN (fun j => pW (bV μ v) f t h s (j + 1)) 99 with
  | none => rfl
  | some k => rfl
section mr
variable {μC μM : o_Mem}
theorem pu_weightAt (h : Inv μC μM) (f t k s x : Int32) : o_Eq2 (fX11_weightAt rfC 0 f t k s x μC) (fX12_weightAt rfM 0 f t k s x μM) Inv := by
  obtain ⟨hw, hr⟩ := Inv_v h
  have kM := lp_acc (head := 35) (e := 78) (step := fX12_weightAt_s35 rfM 0 f t k s x) (μ := μM) (fWat (pW (bV μC 10) f t k s) x) (N := 100) (k0 := 1) (fun l _ hl a => by
      unfold fX12_weightAt_s35 fWat fX12_weightAt_j68
      rw [if_neg (lt99 hl), e12_sober f t _ k hw.1 hr, p_bd, aR_1]
      by_cases hp : sob (bV μC 10) f t (nI l) k = s
      · rw [if_pos hp, if_pos (pW_t.mpr hp)]
        repeat' split
        all_goals rfl
      · rw [if_neg hp, if_neg (fun z => hp (pW_t.mp z))])
    (fun a => by unfold fX12_weightAt_s35; rw [if_pos gt99]) (by decide) 99 1 (-1) (Nat.le_refl _) (by omega)
  unfold fX11_weightAt fX12_weightAt fX11_weightAt_j38 fX12_weightAt_j23 fX11_weightAt_j78
  rw [rc0_4, e8_isLetter rfC hw.1, e12_isAsked hw.1 hr, p_bd, p_bd, bI_if, bI_if, e8_isStrike rfC hw.1, p_bd, bI_if, e11_within, p_bd, bI_if, i64_of, c64_0, c64_1]
  simp only [i32_lt, i32_le, c32_0, c32_1]
  by_cases hm : askP (bV μC 10) f t k
  · rw [if_pos ((mail_1 _ _ _ _).mpr hm)]
    by_cases hs : rg s (cS (bV μC 10))
    · rw [if_pos hs, if_pos (show askP (bV μC 10) f t k ∧ rg s (cS (bV μC 10)) from ⟨hm, hs⟩)]
      by_cases hx : rg x 2
      · rw [if_pos (show 0 ≤ x.toInt ∧ x.toInt ≤ 1 by omega), if_neg (show ¬ x.toInt < 0 by omega), if_pos (show x.toInt ≤ 1 by omega), show o_lp 35 (fX12_weightAt_s35 rfM 0 f t k s x) o_fuel (-1, 1) μM = _ from p_lp kM (by omega)]
        obtain ⟨i, hi, hi2, rfl⟩ := rg_nI hx
        rcases (show i = 0 ∨ i = 1 by omega) with rfl | rfl
        · rw [if_pos (show nI 0 = 0 from rfl), show fX8_lightest rfC 10 f t 1 k s μC = _ from e8_lightest (w := 1) k10 hw.1 f t k s (by omega), wat_first _ (show ¬ nI 0 = 1 by decide) 99 1 (by omega), p_bd, p_bd, e11_any', p_bd, if_pos rfl, e12_any', p_bd]
          exact eq2_st h _ _ rfl rfl
        · rw [if_neg (show ¬ nI 1 = 0 by decide), e8_heaviest k10 hw.1, show accN (fWat (pW (bV μC 10) f t k s) (nI 1)) 99 1 (-1) = _ from wat_last _ 99, p_bd, p_bd, e11_any', p_bd, if_pos rfl, e12_any', p_bd]
          exact eq2_st h _ _ rfl rfl
      · rw [if_neg (show ¬ (0 ≤ x.toInt ∧ x.toInt ≤ 1) by omega)]
        by_cases h0 : x.toInt < 0
        · rw [if_pos h0]; exact eq2_st h _ _ rfl rfl
        · rw [if_neg h0, if_neg (show ¬ x.toInt ≤ 1 by omega)]; exact eq2_st h _ _ rfl rfl
    · rw [if_neg hs, if_neg (fun z => hs z.2)]; exact eq2_st h _ _ rfl rfl
  · rw [if_neg (fun z => hm ((mail_1 _ _ _ _).mp z)), if_neg (fun z => hm z.1)]; exact eq2_st h _ _ rfl rfl
theorem rf1 {v : Nat} (hv : kdC v = .inl 1) (k : Nat) : rfC v k = v + k := by unfold rfC; rw [hv]; rfl
theorem k17 : kdC 17 = .inl 1 := by decide
theorem k23 : kdC 23 = .inl 1 := by decide
theorem e1_tell {v : Nat} (hv : kdC v = .inl 1) {k j : Nat} (hk : k < 12) (hj : j < 5) (μ : o_Mem) : fX1_tell rfC v (nI k) (nI j) μ = some (μ.1 (v + 1 + j) k, μ) := by
  unfold fX1_tell
  simp (disch := omega) only [rf1 hv, nI_toInt, nI_clamp, p_ck]
  rcases (show j = 0 ∨ j = 1 ∨ j = 2 ∨ j = 3 ∨ j = 4 by omega) with rfl | rfl | rfl | rfl | rfl
  · rw [if_pos (by decide)]
  · rw [if_neg (by decide), if_pos (by decide)]
  · rw [if_neg (by decide), if_neg (by decide), if_pos (by decide)]
  · rw [if_neg (by decide), if_neg (by decide), if_neg (by decide), if_pos (by decide)]
  · rw [if_neg (by decide), if_neg (by decide), if_neg (by decide), if_neg (by decide)]
theorem pu_letter (h : Inv μC μM) (x y : Int32) : o_Eq2 (fX11_letter rfC 0 x y μC) (fX12_letter rfM 0 x y μM) Inv := by
  obtain ⟨hw, hr⟩ := Inv_v h
  have b := hw.1.2.2.2.2.1.2
  have e : μC.1 17 0 = nI (cW (bV μC 10)) := hw.1.2.2.2.2.1.1
  unfold fX11_letter fX12_letter fX11_letter_j34 fX12_letter_j35 fX12_letterRow
  simp only [rc0_4, rc10_15, rm_0, e11_within, e12_isLetter hw.1 hr, p_bd, bI_if, e11_refuses, e12_refuse, i64_of, c64_0, c64_3, e, nI_sub1 (show cW (bV μC 10) < 2 ^ 30 by omega), i32_lt, c32_0, c32_3]
  by_cases hx : rg x (cW (bV μC 10))
  · rw [if_pos (show 0 ≤ x.toInt ∧ x.toInt ≤ (cW (bV μC 10) : Int) - 1 by omega), if_pos hx]
    by_cases hy : rg y 4
    · rw [if_pos (show 0 ≤ y.toInt ∧ y.toInt ≤ 3 by omega), if_neg (show ¬ y.toInt < 0 by omega), if_neg (show ¬ 3 < y.toInt by omega)]
      obtain ⟨k, hk, hk2, rfl⟩ := rg_nI hx
      obtain ⟨j, hj, hj2, rfl⟩ := rg_nI hy
      rw [e1_tell k17 (by omega) (by omega)]
      simp (disch := omega) only [mL_4, aL_151, nI_add', nI_toInt, nI_clamp, p_ck, p_bd, e11_gives, e12_gives]
      rw [hr.2.2.2.2.2.1 k j hk hj, show bV μC 10 (8 + j) k = μC.1 (17 + 1 + j) k by unfold bV; rw [show 10 + (8 + j) = 17 + 1 + j by omega]]
      exact eq2_st h _ _ rfl rfl
    · rw [if_neg (show ¬ (0 ≤ y.toInt ∧ y.toInt ≤ 3) by omega)]
      by_cases h0 : y.toInt < 0
      · rw [if_pos h0]; exact eq2_st h _ _ rfl rfl
      · rw [if_neg h0, if_pos (show 3 < y.toInt by omega)]; exact eq2_st h _ _ rfl rfl
  · rw [if_neg (show ¬ (0 ≤ x.toInt ∧ x.toInt ≤ (cW (bV μC 10) : Int) - 1) by omega), if_neg hx]; exact eq2_st h _ _ rfl rfl
theorem pu_cover (h : Inv μC μM) (x y : Int32) : o_Eq2 (fX11_cover rfC 0 x y μC) (fX12_cover rfM 0 x y μM) Inv := by
  obtain ⟨hw, hr⟩ := Inv_v h
  have b := hw.1.2.2.2.2.2.2
  have e : μC.1 23 0 = nI (cC (bV μC 10)) := hw.1.2.2.2.2.2.1
  have e' : μM.1 1 5 = nI (cC (bV μC 10)) := hr.1.2.2.2.2.2.1.trans hw.1.2.2.2.2.2.1
  unfold fX11_cover fX12_cover fX11_cover_j34 fX12_cover_j23 fX12_coverRow
  simp only [rc0_4, rc10_16, rm_0, e11_within, p_bd, bI_if, e11_refuses, e12_refuse, i64_of, c64_0, c64_4, e, e', nI_sub1 (show cC (bV μC 10) < 2 ^ 30 by omega), i32_lt, i32_le, c32_0, c32_4, nI_toInt (show cC (bV μC 10) < 2 ^ 31 by omega)]
  by_cases hx : rg x (cC (bV μC 10))
  · rw [if_pos (show 0 ≤ x.toInt ∧ x.toInt ≤ (cC (bV μC 10) : Int) - 1 by omega), if_neg (show ¬ x.toInt < 0 by omega), if_neg (show ¬ (cC (bV μC 10) : Int) ≤ x.toInt by omega)]
    by_cases hy : rg y 5
    · rw [if_pos (show 0 ≤ y.toInt ∧ y.toInt ≤ 4 by omega), if_neg (show ¬ y.toInt < 0 by omega), if_pos (show y.toInt ≤ 4 by omega)]
      obtain ⟨k, hk, hk2, rfl⟩ := rg_nI hx
      obtain ⟨j, hj, hj2, rfl⟩ := rg_nI hy
      rw [e1_tell k23 (by omega) (by omega)]
      simp (disch := omega) only [mL_5, aL_199, nI_add', nI_toInt, nI_clamp, p_ck, p_bd, e11_any', e12_any']
      rw [hr.2.2.2.2.2.2 k j hk hj, show bV μC 10 (14 + j) k = μC.1 (23 + 1 + j) k by unfold bV; rw [show 10 + (14 + j) = 23 + 1 + j by omega]]
      exact eq2_st h _ _ rfl rfl
    · rw [if_neg (show ¬ (0 ≤ y.toInt ∧ y.toInt ≤ 4) by omega)]
      by_cases h0 : y.toInt < 0
      · rw [if_pos h0]; exact eq2_st h _ _ rfl rfl
      · rw [if_neg h0, if_neg (show ¬ y.toInt ≤ 4 by omega)]; exact eq2_st h _ _ rfl rfl
  · rw [if_neg (show ¬ (0 ≤ x.toInt ∧ x.toInt ≤ (cC (bV μC 10) : Int) - 1) by omega)]
    by_cases h0 : x.toInt < 0
    · rw [if_pos h0]; exact eq2_st h _ _ rfl rfl
    · rw [if_neg h0, if_pos (show (cC (bV μC 10) : Int) ≤ x.toInt by omega)]; exact eq2_st h _ _ rfl rfl
theorem pu_brother (h : Inv μC μM) (x : Int32) : o_Eq2 (fX11_brother rfC 0 x μC) (fX12_brother rfM 0 x μM) Inv := by
  obtain ⟨hw, hr⟩ := Inv_v h
  have b := hw.1.2.2.2.2.1.2
  have b8 := hw.1.2.2.2.1.2
  have e : μC.1 17 0 = nI (cW (bV μC 10)) := hw.1.2.2.2.2.1.1
  unfold fX11_brother fX12_brother fX12_letterRow
  simp only [rc0_4, rc10_15, rc17_1, rc17_2, rc17_3, rc17_4, rm_0, e11_within, e12_isLetter hw.1 hr, p_bd, bI_if, e11_refuses, e12_refuse, i64_of, c64_0, e, nI_sub1 (show cW (bV μC 10) < 2 ^ 30 by omega)]
  by_cases hx : rg x (cW (bV μC 10))
  · rw [if_pos (show 0 ≤ x.toInt ∧ x.toInt ≤ (cW (bV μC 10) : Int) - 1 by omega), if_pos hx]
    obtain ⟨k, hk, hk2, rfl⟩ := rg_nI hx
    have q0 := hr.2.2.2.2.2.1 k 0 hk (by omega)
    have q1 := hr.2.2.2.2.2.1 k 1 hk (by omega)
    have q2 := hr.2.2.2.2.2.1 k 2 hk (by omega)
    have q3 := hr.2.2.2.2.2.1 k 3 hk (by omega)
    rw [Nat.add_zero] at q0
    simp (disch := omega) only [mL_4, aL_151, aR_1, aR_2, aR_3, nI_toInt, nI_clamp, p_ck, q0, q1, q2, q3, e8_lastFit k10 _ _ _ _ μC hw.1, e12_lastLaw _ _ _ _ hw.1 hr, p_bd]
    rw [e8_strikeBy k10 μC _ (fun l hl => by have := lstL_lt hl; omega), e12_strikeBy hw.1 hr _ (fun l hl => lstL_lt hl), p_bd, p_bd, e11_any', e12_any', p_bd, p_bd]
    exact eq2_st h _ _ rfl rfl
  · rw [if_neg (show ¬ (0 ≤ x.toInt ∧ x.toInt ≤ (cW (bV μC 10) : Int) - 1) by omega), if_neg hx]; exact eq2_st h _ _ rfl rfl
end mr
