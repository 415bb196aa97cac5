/-! ===== rows in TRAYS: copyDay, pour, isJust, reads ===== -/
section rw2
variable {μC μM : o_Mem}
def tS (μM : o_Mem) (x y : Int32) : Int32 := if 0 ≤ x.toInt ∧ x.toInt < 4 then (if μM.1 4 x.toNatClampNeg = -1 then 2 else if y ≤ μM.1 4 x.toNatClampNeg then 0 else 3) else 1
theorem e11_row (h : Inv μC μM) (x y : Int32) : fX11_rowStatus rfC 0 x y μC = some (tS μM x y, μC) := by
  unfold fX11_rowStatus tS
  simp only [e11_isTray, p_bd, bI_if, rc0_3]
  by_cases hx : 0 ≤ x.toInt ∧ x.toInt < 4
  · rw [if_pos hx, if_pos hx, p_ck _ hx, p_ck _ hx]
    obtain ⟨t, ht, ht2, rfl⟩ := rg_nI (x := x) (n := 4) (by omega)
    rw [nI_clamp ht2, rc1]
    rcases h.2.1 t ht with ⟨q1, q2⟩ | ⟨q1, q2, q3, n, q4, q5, q6, q7⟩
    · rw [if_pos q1, if_pos q2]
    · rw [if_neg (show ¬ μC.1 (2 + 2 * t) 0 = 0 by rw [q1]; decide), if_neg (show ¬ μM.1 4 t = -1 by rw [q6]; exact nI_nm1 (by omega)), q5, q6]
      split <;> rfl
  · rw [if_neg hx, if_neg hx]
def trD (μC μM : o_Mem) (t n : Nat) : Prop := n ≤ 60 ∧ μC.1 (2 + 2 * t) 0 = 1 ∧ μC.1 (2 + 2 * t) 1 = μM.1 3 t ∧ inR (μM.1 3 t) 4 ∧ μC.1 (2 + 2 * t) 2 = nI n ∧ μM.1 4 t = nI n ∧ ∀ k, k < n → μC.2 (3 + 2 * t) k = μM.2 5 (60 * t + k)
theorem tS_c (h : Inv μC μM) (x y : Int32) : (¬ (0 ≤ x.toInt ∧ x.toInt < 4) ∧ tS μM x y = 1) ∨ (∃ t, t < 4 ∧ x = nI t ∧ ((μM.1 4 t = -1 ∧ tS μM x y = 2) ∨ (∃ n, trD μC μM t n ∧ ((y ≤ nI n ∧ tS μM x y = 0) ∨ (¬ y ≤ nI n ∧ tS μM x y = 3))))) := by
  unfold tS
  by_cases hx : 0 ≤ x.toInt ∧ x.toInt < 4
  · obtain ⟨t, ht, ht2, rfl⟩ := rg_nI (x := x) (n := 4) (by omega)
    rw [if_pos hx, nI_clamp ht2]
    refine Or.inr ⟨t, ht, rfl, ?_⟩
    rcases h.2.1 t ht with ⟨q1, q2⟩ | ⟨q1, q2, q3, n, q4, q5, q6, q7⟩
    · rw [if_pos q2]; exact Or.inl ⟨q2, rfl⟩
    · refine Or.inr ⟨n, ⟨q4, q1, q2, q3, q5, q6, q7⟩, ?_⟩
      rw [if_neg (by rw [q6]; exact nI_nm1 (by omega)), q6]
      by_cases hy : y ≤ nI n
      · rw [if_pos hy]; exact Or.inl ⟨hy, rfl⟩
      · rw [if_neg hy]; exact Or.inr ⟨hy, rfl⟩
  · rw [if_neg hx]; exact Or.inl ⟨hx, rfl⟩
theorem pu_copyDay (h : Inv μC μM) (x : Int32) : o_Eq2 (fX11_copyDay rfC 0 x μC) (fX12_copyDay rfM 0 x μM) Inv := by
  obtain ⟨hw, hr⟩ := Inv_v h
  have b := hw.1.2.2.2.2.2.2
  have e : μC.1 23 0 = nI (cC (bV μC 10)) := hw.1.2.2.2.2.2.1
  have e' : μM.1 1 5 = nI (cC (bV μC 10)) := hr.1.2.2.2.2.2.1.trans hw.1.2.2.2.2.2.1
  unfold fX11_copyDay fX12_copyDay
  simp only [rc0_4, rc10_16, e11_row h, p_bd, e12_isTray, bI_if, qm_0, qm_6, e, e', e11_refuses, e12_refuse]
  rcases tS_c h x (nI (cC (bV μC 10))) with ⟨hx, hs⟩ | ⟨t, ht, rfl, ⟨hn, hs⟩ | ⟨n, hd, ⟨hy, hs⟩ | ⟨hy, hs⟩⟩⟩
  · rw [hs, if_neg (by decide), if_neg hx]; exact eq2_st h _ _ rfl rfl
  · rw [hs, if_neg (by decide), if_pos (show 0 ≤ (nI t).toInt ∧ (nI t).toInt < 4 by rw [nI_toInt (by omega)]; omega), nI_clamp (by omega), p_ck _ (by rw [nI_toInt (by omega)]; omega), if_pos hn]; exact eq2_st h _ _ rfl rfl
  · obtain ⟨d1, d2, d3, d4, d5, d6, d7⟩ := hd
    rw [n_le (by omega) (by omega)] at hy
    rw [hs, if_pos rfl, if_pos (show 0 ≤ (nI t).toInt ∧ (nI t).toInt < 4 by rw [nI_toInt (by omega)]; omega), nI_clamp (by omega), p_ck _ (by rw [nI_toInt (by omega)]; omega), if_neg (by rw [d6]; exact nI_nm1 (by omega)), p_ck _ (by rw [nI_toInt (by omega)]; omega), if_pos (by rw [d6, n_le (by omega) (by omega)]; omega)]
    obtain ⟨e1, m1, e2, m2, q1, q2, ⟨rfl, rfl, i1, i2, i3, i4⟩⟩ := lp_rel (h1 := 28) (h2 := 52) (s1 := fX11_copyDay_s28 rfC 0 (nI t)) (s2 := fX12_copyDay_s52 rfM 0 (nI t))
      (fun m τ1 μ1 τ2 μ2 => ∃ k, k + m = cC (bV μC 10) ∧ τ1 = nI k ∧ τ2 = nI k ∧ μ1.1 = μC.1 ∧ μ2.1 = μM.1 ∧ Inv μ1 μ2 ∧ trD μ1 μ2 t n)
      (fun e1 m1 e2 m2 => e1 = (71, 0) ∧ e2 = (100, 0) ∧ m1.1 = μC.1 ∧ m2.1 = μM.1 ∧ Inv m1 m2 ∧ trD m1 m2 t n)
      (fun m τ1 μ1 τ2 μ2 hR => by
        obtain ⟨k, hk, rfl, rfl, j1, j2, j3, j4⟩ := hR
        unfold fX11_copyDay_s28 fX12_copyDay_s52 fX12_coverRow
        simp only [rc0_4, rc10_16, rc23_5, rc0_3, rc1, qm_0, qm_5, qm_7, j1, j2, e, e']
        by_cases hm : m = 0
        · subst hm
          rw [if_pos (show nI (cC (bV μC 10)) ≤ nI k by rw [n_le (by omega) (by omega)]; omega), if_pos (show nI (cC (bV μC 10)) ≤ nI k by rw [n_le (by omega) (by omega)]; omega)]
          exact ⟨_, _, _, _, rfl, rfl, Or.inr ⟨by decide, by decide, rfl, rfl, j1, j2, j3, j4⟩⟩
        · rw [if_neg (show ¬ nI (cC (bV μC 10)) ≤ nI k by rw [n_le (by omega) (by omega)]; omega), if_neg (show ¬ nI (cC (bV μC 10)) ≤ nI k by rw [n_le (by omega) (by omega)]; omega)]
          have hc := hr.2.2.2.2.2.2 k 4 (by omega) (by omega)
          have hc' : μM.1 1 (199 + 5 * k + 4) = μC.1 28 k := hc
          simp (disch := omega) only [mL_5, aL_199, aR_4, mL_60, nI_add', nI_toInt, nI_clamp, p_ck, p_bd, e7_put ht, e12_cut, p_seq, j1, j2, hc', aR_1, d3]
          obtain ⟨f1, f2, f3, f4, f5, f6, f7⟩ := j4
          have hI := Inv_wr j3 ht (show k < n by omega) f1 f2 f3 f4 f5 f6 f7 (cutV (μM.1 3 t) (μC.1 28 k).toInt64)
          refine ⟨_, _, _, _, rfl, rfl, Or.inl ⟨rfl, rfl, m - 1, by omega, k + 1, by omega, rfl, rfl, j1, j2, hI, f1, f2, f3, f4, f5, f6, fun j hj => ?_⟩⟩
          rw [p_wL2, p_wL2]
          by_cases e : j = k
          · rw [if_pos ⟨rfl, e⟩, if_pos ⟨rfl, by omega⟩]
          · rw [if_neg (fun z => e z.2), if_neg (by omega)]; exact f7 j hj)
      o_fuel (cC (bV μC 10)) 0 μC 0 μM (fu (by omega)) ⟨0, by omega, rfl, rfl, rfl, rfl, h, d1, d2, d3, d4, d5, d6, d7⟩
    rw [q1, q2, p_bd, p_bd, if_pos rfl, if_pos rfl, e11_gives, e12_gives, p_bd, p_bd, i1, i2, e, e']
    exact ⟨_, _, _, rfl, rfl, Inv_st 0 i3⟩
  · obtain ⟨d1, d2, d3, d4, d5, d6, d7⟩ := hd
    rw [hs, if_neg (by decide), if_pos (show 0 ≤ (nI t).toInt ∧ (nI t).toInt < 4 by rw [nI_toInt (by omega)]; omega), nI_clamp (by omega), p_ck _ (by rw [nI_toInt (by omega)]; omega), if_neg (by rw [d6]; exact nI_nm1 (by omega)), p_ck _ (by rw [nI_toInt (by omega)]; omega), if_neg (by rw [d6]; exact hy)]; exact eq2_st h _ _ rfl rfl
theorem i64_add2 (x y : Int32) : (x.toInt64 + y.toInt64).toInt = x.toInt + y.toInt := by
  have h1 := i32_rng x
  have h2 := i32_rng y
  rw [Int64.toInt_add, i64_of, i64_of]
  apply Int.bmod_eq_of_le <;> omega
theorem i32_sub2 {a : Nat} (ha : a ≤ 60) {x : Int32} (hx : 0 ≤ x.toInt) : (nI a - x).toInt = a - x.toInt := by
  have h1 := i32_rng x
  rw [Int32.toInt_sub, nI_toInt (by omega)]
  apply Int.bmod_eq_of_le <;> omega
theorem ends_2 {rf : Nat → Nat → Nat} {a : Nat} {μ : o_Mem} : fX11_ends rf a 2 μ = some (0, o_wI μ a 0 2) := ends_ne (by decide)
theorem is_2 {rf : Nat → Nat → Nat} {a : Nat} {μ : o_Mem} : fX12_is rf a 2 μ = some (0, o_wI μ a 2 2) := is_ne (by decide)
theorem ends_3 {rf : Nat → Nat → Nat} {a : Nat} {μ : o_Mem} : fX11_ends rf a 3 μ = some (0, o_wI μ a 0 3) := ends_ne (by decide)
theorem is_3 {rf : Nat → Nat → Nat} {a : Nat} {μ : o_Mem} : fX12_is rf a 3 μ = some (0, o_wI μ a 2 3) := is_ne (by decide)
theorem ends_8 {rf : Nat → Nat → Nat} {a : Nat} {μ : o_Mem} : fX11_ends rf a 8 μ = some (0, o_wI μ a 0 8) := ends_ne (by decide)
theorem is_8 {rf : Nat → Nat → Nat} {a : Nat} {μ : o_Mem} : fX12_is rf a 8 μ = some (0, o_wI μ a 2 8) := is_ne (by decide)
theorem trC (h : Inv μC μM) {t : Nat} (ht : t < 4) : (μC.1 (2 + 2 * t) 0 = 0 ∧ μM.1 4 t = -1) ∨ ∃ n, trD μC μM t n := by
  rcases h.2.1 t ht with q | ⟨q1, q2, q3, n, q4, q5, q6, q7⟩
  · exact Or.inl q
  · exact Or.inr ⟨n, q4, q1, q2, q3, q5, q6, q7⟩
theorem pour_lp {f t p a m : Nat} (hf : f < 4) (ht : t < 4) (hp : p + m ≤ 60) (ha : a + m ≤ 60) : ∃ μ', o_lp 118 (fX12_pour_s118 rfM 0 (nI f) (nI p) (nI t) (nI a) (nI m)) o_fuel 0 μM = some ((180, 0), μ') ∧ μ'.1 = μM.1 ∧ (∀ i, i ≠ 5 → μ'.2 i = μM.2 i) ∧ ∀ j, μ'.2 5 j = if 60 * t + a ≤ j ∧ j < 60 * t + a + m then μM.2 5 (60 * f + p + (j - (60 * t + a))) else μM.2 5 j := by
  by_cases hd : a ≤ p
  · obtain ⟨μ', e1, e2, e3, e4⟩ := lp_inv (head := 118) (e := 180) (step := fX12_pour_s118 rfM 0 (nI f) (nI p) (nI t) (nI a) (nI m)) (fun k μ => μ.1 = μM.1 ∧ (∀ i, i ≠ 5 → μ.2 i = μM.2 i) ∧ ∀ j, μ.2 5 j = if 60 * t + a ≤ j ∧ j < 60 * t + a + k then μM.2 5 (60 * f + p + (j - (60 * t + a))) else μM.2 5 j) (N := m) (k0 := 0)
      (fun k μ _ hk ⟨i1, i2, i3⟩ => by
        unfold fX12_pour_s118 fX12_pour_j143
        rw [if_neg (show ¬ nI m ≤ nI k by rw [n_le (by omega) (by omega)]; omega), if_pos (show nI a ≤ nI p by rw [n_le (by omega) (by omega)]; omega)]
        simp (disch := omega) only [qm_7, mL_60, nI_add', nI_toInt, nI_clamp, p_ck, p_seq, aR_1]
        refine ⟨_, rfl, i1, fun i hi => by rw [p_wL_o hi]; exact i2 i hi, fun j => ?_⟩
        rw [p_wL2, i3, i3 j]
        by_cases ej : j = 60 * t + a + k
        · rw [if_pos ⟨rfl, ej⟩, if_neg (by omega), if_pos (by omega)]
          exact congrArg (μM.2 5) (by omega)
        · rw [if_neg (fun z => ej z.2)]
          by_cases e9 : 60 * t + a ≤ j ∧ j < 60 * t + a + k
          · rw [if_pos e9, if_pos (by omega)]
          · rw [if_neg e9, if_neg (by omega)])
      (fun μ _ => by unfold fX12_pour_s118; rw [if_pos ((n_le (by omega) (by omega)).mpr (Nat.le_refl _))]) (by decide) m 0 μM (by omega) (by omega) ⟨rfl, fun _ _ => rfl, fun j => by rw [if_neg (by omega)]⟩
    exact ⟨μ', p_lp e1 (by omega), e2, e3, e4⟩
  · obtain ⟨μ', e1, e2, e3, e4⟩ := lp_inv (head := 118) (e := 180) (step := fX12_pour_s118 rfM 0 (nI f) (nI p) (nI t) (nI a) (nI m)) (fun k μ => μ.1 = μM.1 ∧ (∀ i, i ≠ 5 → μ.2 i = μM.2 i) ∧ ∀ j, μ.2 5 j = if 60 * t + a + m ≤ j + k ∧ j < 60 * t + a + m then μM.2 5 (60 * f + p + (j - (60 * t + a))) else μM.2 5 j) (N := m) (k0 := 0)
      (fun k μ _ hk ⟨i1, i2, i3⟩ => by
        unfold fX12_pour_s118 fX12_pour_j143
        have em : nI m - 1 - nI k = nI (m - 1 - k) := by
          rw [show m = (m - 1) + 1 by omega, nI_pred, show m - 1 = (m - 1 - k) + k by omega, ← nI_add']
          simp
        rw [if_neg (show ¬ nI m ≤ nI k by rw [n_le (by omega) (by omega)]; omega), if_neg (show ¬ nI a ≤ nI p by rw [n_le (by omega) (by omega)]; omega), em]
        simp (disch := omega) only [qm_7, mL_60, nI_add', nI_toInt, nI_clamp, p_ck, p_seq, aR_1]
        refine ⟨_, rfl, i1, fun i hi => by rw [p_wL_o hi]; exact i2 i hi, fun j => ?_⟩
        rw [p_wL2, i3, i3 j]
        by_cases ej : j = 60 * t + a + (m - 1 - k)
        · rw [if_pos ⟨rfl, ej⟩, if_neg (by omega), if_pos (by omega)]
          exact congrArg (μM.2 5) (by omega)
        · rw [if_neg (fun z => ej z.2)]
          by_cases e9 : 60 * t + a + m ≤ j + k ∧ j < 60 * t + a + m
          · rw [if_pos e9, if_pos (by omega)]
          · rw [if_neg e9, if_neg (by omega)])
      (fun μ _ => by unfold fX12_pour_s118; rw [if_pos ((n_le (by omega) (by omega)).mpr (Nat.le_refl _))]) (by decide) m 0 μM (by omega) (by omega) ⟨rfl, fun _ _ => rfl, fun j => by rw [if_neg (by omega)]⟩
    refine ⟨μ', p_lp e1 (by omega), e2, e3, fun j => ?_⟩
    rw [e4]
    by_cases e9 : 60 * t + a ≤ j ∧ j < 60 * t + a + m
    · rw [if_pos e9, if_pos (by omega)]
    · rw [if_neg e9, if_neg (by omega)]
theorem pu_pour (h : Inv μC μM) (x1 x2 x3 x4 x5 : Int32) : o_Eq2 (fX11_pour rfC 0 x1 x2 x3 x4 x5 μC) (fX12_pour rfM 0 x1 x2 x3 x4 x5 μM) Inv := by
  unfold fX11_pour fX12_pour fX11_pour_j28 fX12_pour_j28 fX11_pour_j66 fX12_pour_j54 fX11_pour_j125 fX12_pour_j109
  simp only [e11_isTray, e12_isTray, p_bd, bI_if, rc0_3, qm_5, qm_6, ends_1, is_1, ends_2, is_2, ends_3, is_3, ends_8, is_8, i32_lt, i32_le, c32_0]
  by_cases h1 : 0 ≤ x1.toInt ∧ x1.toInt < 4
  · rw [if_pos h1, if_pos h1]
    by_cases h3 : 0 ≤ x3.toInt ∧ x3.toInt < 4
    · rw [if_pos h3, if_pos h3]
      by_cases h2 : x2.toInt < 0
      · rw [if_pos h2, if_pos h2]; exact eq2_st h _ _ rfl rfl
      · rw [if_neg h2, if_neg h2]
        by_cases h4 : x4.toInt < 0
        · rw [if_pos h4, if_pos h4]; exact eq2_st h _ _ rfl rfl
        · rw [if_neg h4, if_neg h4]
          by_cases h5 : 0 ≤ x5.toInt
          · rw [if_pos h5, if_pos h5, p_ck _ h1, p_ck _ h3, p_ck _ h1, p_ck _ h3, p_ck _ h1, p_ck _ h3, p_ck _ h1, p_ck _ h3]
            obtain ⟨f, hf, hf2, rfl⟩ := rg_nI (x := x1) (n := 4) (by omega)
            obtain ⟨t, ht, ht2, rfl⟩ := rg_nI (x := x3) (n := 4) (by omega)
            rw [nI_clamp hf2, nI_clamp ht2, rc1, rc1, rcT hf, rcT ht]
            rcases trC h hf with ⟨q1, q2⟩ | ⟨n1, d1, d2, d3, d4, d5, d6, d7⟩
            · rw [if_pos q1, if_pos q2]; exact eq2_st h _ _ rfl rfl
            · rw [if_neg (show ¬ μC.1 (2 + 2 * f) 0 = 0 by rw [d2]; decide), if_neg (show ¬ μM.1 4 f = -1 by rw [d6]; exact nI_nm1 (by omega))]
              rcases trC h ht with ⟨q1, q2⟩ | ⟨n2, f1, f2, f3, f4, f5, f6, f7⟩
              · rw [if_pos q1, if_pos q2]; exact eq2_st h _ _ rfl rfl
              · rw [if_neg (show ¬ μC.1 (2 + 2 * t) 0 = 0 by rw [f2]; decide), if_neg (show ¬ μM.1 4 t = -1 by rw [f6]; exact nI_nm1 (by omega)), d3, f3]
                by_cases hs : μM.1 3 f = μM.1 3 t
                · rw [if_pos hs, if_pos hs, d5, d6, f5, f6]
                  simp only [i64_lt, i64_le, i64_add2, i64_of, i32_sub2 d1 (show 0 ≤ x2.toInt by omega), i32_sub2 f1 (show 0 ≤ x4.toInt by omega), nI_toInt (show n1 < 2 ^ 31 by omega), nI_toInt (show n2 < 2 ^ 31 by omega)]
                  by_cases g1 : (n1 : Int) < x2.toInt + x5.toInt
                  · rw [if_pos g1, if_pos (show (n1 : Int) - x2.toInt < x5.toInt by omega)]; exact eq2_st h _ _ rfl rfl
                  · rw [if_neg g1, if_neg (show ¬ (n1 : Int) - x2.toInt < x5.toInt by omega)]
                    by_cases g2 : x4.toInt + x5.toInt ≤ (n2 : Int)
                    · rw [if_pos g2, if_pos (show x5.toInt ≤ (n2 : Int) - x4.toInt by omega)]
                      obtain ⟨p, hp, hp2, rfl⟩ := rg_nI (x := x2) (n := 61) (by omega)
                      obtain ⟨a, ha, ha2, rfl⟩ := rg_nI (x := x4) (n := 61) (by omega)
                      obtain ⟨m, hm, hm2, rfl⟩ := rg_nI (x := x5) (n := 61) (by omega)
                      rw [nI_toInt hp2, nI_toInt hm2] at g1
                      rw [nI_toInt ha2, nI_toInt hm2] at g2
                      obtain ⟨μ', e1, e2, e3, e4⟩ := pour_lp (μM := μM) (f := f) (t := t) (p := p) (a := a) (m := m) hf ht (by omega) (by omega)
                      rw [nI_clamp hp2, nI_clamp ha2, nI_clamp hm2, p_ck _ (by rw [nI_toInt hp2, nI_toInt ha2, nI_toInt hm2]; omega), p_seq, ends_0, p_bd, e1, p_bd, if_pos rfl, is_0, p_bd]
                      refine ⟨1, _, _, rfl, rfl, Inv_st 0 (Inv_tr h ht (fun i hi => rfl) (fun i hi => p_sL_o hi) (fun i _ _ => by rw [e2]) (fun i _ => by rw [e2]) (fun i _ => by rw [e2]) e3 (fun j hj => ?_) (Or.inr ⟨f2, ?_, ?_, n2, f1, f5, ?_, fun j hj => ?_⟩))⟩
                      · rw [e4, if_neg (by omega)]
                      · rw [e2]; exact f3
                      · rw [e2]; exact f4
                      · rw [e2]; exact f6
                      · rw [e4, p_sL2, if_pos rfl]
                        unfold va_cpy
                        by_cases e9 : a ≤ j ∧ j < a + m
                        · rw [if_pos e9, if_pos (by omega), d7 _ (by omega)]
                          exact congrArg (μM.2 5) (by omega)
                        · rw [if_neg e9, if_neg (by omega)]; exact f7 j hj
                    · rw [if_neg g2, if_neg (show ¬ x5.toInt ≤ (n2 : Int) - x4.toInt by omega)]; exact eq2_st h _ _ rfl rfl
                · rw [if_neg hs, if_neg hs]; exact eq2_st h _ _ rfl rfl
          · rw [if_neg h5, if_neg h5]; exact eq2_st h _ _ rfl rfl
    · rw [if_neg h3, if_neg h3]; exact eq2_st h _ _ rfl rfl
  · rw [if_neg h1, if_neg h1]; exact eq2_st h _ _ rfl rfl
end rw2
