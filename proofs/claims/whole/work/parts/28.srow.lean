/-! ===== rows of STRIKES: isJust, reads ===== -/
section sr
variable {μC μM : o_Mem}
def rowOk (μC μM : o_Mem) (m t n : Nat) : Prop := ∀ k, k < n → ∃ i, i < m ∧ μC.2 (3 + 2 * t) k = (nI i).toInt64 ∧ μM.2 5 (60 * t + k) = (nI i).toInt64
theorem i64_nI {v : Int64} {m : Nat} (h0 : 0 ≤ v.toInt) (h1 : v.toInt < m) (hm : m ≤ 1000) : ∃ i, i < m ∧ v = (nI i).toInt64 := by
  refine ⟨v.toInt.toNat, by omega, ?_⟩
  rw [← Int64.toInt_inj, i64_of, nI_toInt (by omega)]
  omega
theorem i64_inj (x y : Int32) : x.toInt64 = y.toInt64 ↔ x = y := by
  rw [← Int64.toInt_inj, i64_of, i64_of, Int32.toInt_inj]
theorem e_srow (h : Inv μC μM) (x y : Int32) : ∃ s, fX11_strikeRowStatus rfC 0 x y μC = some (s, μC) ∧ fX12_wrongRow rfM 0 x y μM = some (s, μM) ∧ ((s = 0 ∧ ∃ t n m, t < 4 ∧ x = nI t ∧ y = nI n ∧ 1 ≤ n ∧ n ≤ 12 ∧ n ≤ m ∧ trD μC μM t m ∧ rowOk μC μM (cS (bV μC 10)) t n) ∨ (¬ s = 0 ∧ ¬ s ≤ 0)) := by
  obtain ⟨hw, hr⟩ := Inv_v h
  have b := hw.1.1.2
  unfold fX11_strikeRowStatus fX12_wrongRow
  simp only [e11_within, e12_isTray, e12_isFrom, e11_row h, p_bd, bI_if, i64_of, c64_1, c64_12, qm_6]
  by_cases hy : 1 ≤ y.toInt ∧ y.toInt ≤ 12
  · rw [if_pos hy, if_pos hy]
    obtain ⟨n, hn, hn2, rfl⟩ := rg_nI (x := y) (n := 13) (by omega)
    rw [nI_toInt hn2] at hy
    rcases tS_c h x (nI n) with ⟨hx, hs⟩ | ⟨t, ht, rfl, ⟨hm, hs⟩ | ⟨m, hd, ⟨hz, hs⟩ | ⟨hz, hs⟩⟩⟩
    · rw [hs, if_neg (by decide), if_neg hx]; exact ⟨1, rfl, rfl, Or.inr ⟨by decide, by decide⟩⟩
    · rw [hs, if_neg (by decide), if_pos (show 0 ≤ (nI t).toInt ∧ (nI t).toInt < 4 by rw [nI_toInt (by omega)]; omega), nI_clamp (by omega), p_ck _ (by rw [nI_toInt (by omega)]; omega), if_pos hm]; exact ⟨2, rfl, rfl, Or.inr ⟨by decide, by decide⟩⟩
    · have hd0 := hd
      obtain ⟨d1, d2, d3, d4, d5, d6, d7⟩ := hd
      rw [n_le (by omega) (by omega)] at hz
      rw [hs, if_pos rfl, if_pos (show 0 ≤ (nI t).toInt ∧ (nI t).toInt < 4 by rw [nI_toInt (by omega)]; omega), nI_clamp (by omega), p_ck _ (by rw [nI_toInt (by omega)]; omega), if_neg (show ¬ μM.1 4 t = -1 by rw [d6]; exact nI_nm1 (by omega)), p_ck _ (by rw [nI_toInt (by omega)]; omega), if_pos (show nI n ≤ μM.1 4 t by rw [d6, n_le (by omega) (by omega)]; omega)]
      obtain ⟨e1, m1, e2, m2, q1, q2, rfl, rfl, hE⟩ := lp_rel (h1 := 30) (h2 := 47) (s1 := fX11_strikeRowStatus_s30 rfC 0 (nI t) (nI n)) (s2 := fX12_wrongRow_s47 rfM 0 (nI t) (nI n))
        (fun m τ1 μ1 τ2 μ2 => μ1 = μC ∧ μ2 = μM ∧ ∃ k, k + m = n ∧ τ1 = nI k ∧ τ2 = nI k ∧ rowOk μC μM (cS (bV μC 10)) t k)
        (fun e1 m1 e2 m2 => μC = m1 ∧ μM = m2 ∧ ((e1 = (66, 0) ∧ e2 = (78, 0) ∧ rowOk μC μM (cS (bV μC 10)) t n) ∨ (e1 = (58, 0) ∧ e2 = (70, 0))))
        (fun i τ1 μ1 τ2 μ2 hR => by
          obtain ⟨rfl, rfl, k, hk, rfl, rfl, hok⟩ := hR
          unfold fX11_strikeRowStatus_s30 fX12_wrongRow_s47
          by_cases hi : i = 0
          · rw [if_pos (show nI n ≤ nI k by rw [n_le (by omega) (by omega)]; omega), if_pos (show nI n ≤ nI k by rw [n_le (by omega) (by omega)]; omega)]
            have ek : k = n := by omega
            subst ek
            exact ⟨_, _, _, _, rfl, rfl, Or.inr ⟨by decide, by decide, rfl, rfl, Or.inl ⟨rfl, rfl, hok⟩⟩⟩
          · rw [if_neg (show ¬ nI n ≤ nI k by rw [n_le (by omega) (by omega)]; omega), if_neg (show ¬ nI n ≤ nI k by rw [n_le (by omega) (by omega)]; omega)]
            simp (disch := omega) only [rc0_3, rc0_4, rc1, rcT ht, qm_7, mL_60, nI_add', nI_toInt, nI_clamp, p_ck, e8_isStrikeL rfC hw.1, e12_isStrikeL hw.1 hr, p_bd, bI_if, aR_1, d7 k (by omega)]
            by_cases hq : 0 ≤ (μ2.2 5 (60 * t + k)).toInt ∧ (μ2.2 5 (60 * t + k)).toInt < (cS (bV μ1 10) : Int)
            · rw [if_pos hq, if_pos hq]
              refine ⟨_, _, _, _, rfl, rfl, Or.inl ⟨rfl, rfl, i - 1, by omega, rfl, rfl, k + 1, by omega, rfl, rfl, fun j hj => ?_⟩⟩
              by_cases ej : j = k
              · subst ej
                obtain ⟨i, hi, ei⟩ := i64_nI hq.1 hq.2 (by omega)
                exact ⟨i, hi, by rw [d7 j (by omega)]; exact ei, ei⟩
              · exact hok j (by omega)
            · rw [if_neg hq, if_neg hq]
              exact ⟨_, _, _, _, rfl, rfl, Or.inr ⟨by decide, by decide, rfl, rfl, Or.inr ⟨rfl, rfl⟩⟩⟩)
        o_fuel n 0 μC 0 μM (fu (by omega)) ⟨rfl, rfl, 0, by omega, rfl, rfl, fun k hk => by omega⟩
      rw [q1, q2, p_bd, p_bd]
      rcases hE with ⟨rfl, rfl, hok⟩ | ⟨rfl, rfl⟩
      · exact ⟨0, rfl, rfl, Or.inl ⟨rfl, t, n, m, ht, rfl, rfl, by omega, by omega, hz, hd0, hok⟩⟩
      · exact ⟨5, rfl, rfl, Or.inr ⟨by decide, by decide⟩⟩
    · obtain ⟨d1, d2, d3, d4, d5, d6, d7⟩ := hd
      rw [hs, if_neg (by decide), if_pos (show 0 ≤ (nI t).toInt ∧ (nI t).toInt < 4 by rw [nI_toInt (by omega)]; omega), nI_clamp (by omega), p_ck _ (by rw [nI_toInt (by omega)]; omega), if_neg (show ¬ μM.1 4 t = -1 by rw [d6]; exact nI_nm1 (by omega)), p_ck _ (by rw [nI_toInt (by omega)]; omega), if_neg (by rw [d6]; exact hz)]; exact ⟨3, rfl, rfl, Or.inr ⟨by decide, by decide⟩⟩
  · rw [if_neg hy, if_neg hy]
    split <;> exact ⟨1, rfl, rfl, Or.inr ⟨by decide, by decide⟩⟩
theorem pu_isJust (h : Inv μC μM) (x y : Int32) : o_Eq2 (fX11_isJust rfC 0 x y μC) (fX12_isJust rfM 0 x y μM) Inv := by
  obtain ⟨hw, hr⟩ := Inv_v h
  have b := hw.1.2.2.2.2.2.2
  have e : μC.1 23 0 = nI (cC (bV μC 10)) := hw.1.2.2.2.2.2.1
  have e' : μM.1 1 5 = nI (cC (bV μC 10)) := hr.1.2.2.2.2.2.1.trans hw.1.2.2.2.2.2.1
  obtain ⟨s, e1, e2, hs⟩ := e_srow h x y
  unfold fX11_isJust fX12_isJust fX11_isJust_j47 fX12_isJust_j83 fX12_isJust_j94
  rw [e1, e2, p_bd, p_bd]
  rcases hs with ⟨rfl, t, n, m, ht, rfl, rfl, hn1, hn2, hnm, hd, hok⟩ | ⟨hs, hs2⟩
  · obtain ⟨d1, d2, d3, d4, d5, d6, d7⟩ := hd
    rw [if_pos rfl, if_pos (by decide), p_ck _ (by rw [nI_toInt (by omega)]; omega), rc0_4, rc10_16, rc0_3, nI_clamp (by omega), rc1, rm_0, e']
    unfold fX5_isWhole
    rw [e]
    by_cases hc : cC (bV μC 10) = n
    · rw [if_pos (by rw [hc]), if_pos (by rw [hc])]
      obtain ⟨f1, m1, q1, rfl, hE⟩ := lp_one (h := 13) (s := fX5_isWhole_s13 rfC 23 (2 + 2 * t) (nI n))
        (fun m τ μ => μ = μC ∧ ∃ k, k + m = n ∧ τ = nI k ∧ ∀ j, j < k → μC.2 (3 + 2 * t) j = (μC.1 28 j).toInt64)
        (fun f m1 => μC = m1 ∧ ((f = (46, 0) ∧ ∀ j, j < n → μC.2 (3 + 2 * t) j = (μC.1 28 j).toInt64) ∨ (f = (38, 0) ∧ ¬ ∀ j, j < n → μC.2 (3 + 2 * t) j = (μC.1 28 j).toInt64)))
        (fun i τ μ hR => by
          obtain ⟨rfl, k, hk, rfl, hj⟩ := hR
          unfold fX5_isWhole_s13
          by_cases hi : i = 0
          · rw [if_pos (show nI n ≤ nI k by rw [n_le (by omega) (by omega)]; omega)]
            have ek : k = n := by omega
            subst ek
            exact ⟨_, _, rfl, Or.inr ⟨by decide, rfl, Or.inl ⟨rfl, hj⟩⟩⟩
          · rw [if_neg (show ¬ nI n ≤ nI k by rw [n_le (by omega) (by omega)]; omega)]
            simp (disch := omega) only [rcT ht, rc23_5, nI_toInt, nI_clamp, p_ck, aR_1]
            by_cases hq : μ.2 (3 + 2 * t) k = (μ.1 28 k).toInt64
            · rw [if_pos hq]
              refine ⟨_, _, rfl, Or.inl ⟨rfl, i - 1, by omega, rfl, k + 1, by omega, rfl, fun j hj' => ?_⟩⟩
              by_cases ej : j = k
              · subst ej; exact hq
              · exact hj j (by omega)
            · rw [if_neg hq]
              exact ⟨_, _, rfl, Or.inr ⟨by decide, rfl, Or.inr ⟨rfl, fun z => hq (z k (by omega))⟩⟩⟩)
        o_fuel n 0 μC (fu (by omega)) ⟨rfl, 0, by omega, rfl, fun j hj => by omega⟩
      obtain ⟨f2, m2, q2, rfl, hE2, hE3⟩ := lp_one (h := 37) (s := fX12_isJust_s37 rfM 0 (nI t) (nI n))
        (fun m τ μ => μ = μM ∧ ∃ k, k + m = n ∧ ((τ = (1, nI k) ∧ ∀ j, j < k → μC.2 (3 + 2 * t) j = (μC.1 28 j).toInt64) ∨ (τ = (0, nI k) ∧ ¬ ∀ j, j < n → μC.2 (3 + 2 * t) j = (μC.1 28 j).toInt64)))
        (fun f m1 => μM = m1 ∧ f.1 = 83 ∧ ((f.2.1 = 1 ∧ ∀ j, j < n → μC.2 (3 + 2 * t) j = (μC.1 28 j).toInt64) ∨ (f.2.1 = 0 ∧ ¬ ∀ j, j < n → μC.2 (3 + 2 * t) j = (μC.1 28 j).toInt64)))
        (fun i τ μ hR => by
          obtain ⟨rfl, k, hk, ⟨rfl, hj⟩ | ⟨rfl, hj⟩⟩ := hR
          · unfold fX12_isJust_s37 fX12_coverRow fX12_rowAt
            by_cases hi : i = 0
            · rw [if_pos (show nI n ≤ nI k by rw [n_le (by omega) (by omega)]; omega)]
              have ek : k = n := by omega
              subst ek
              exact ⟨_, _, rfl, Or.inr ⟨show ¬ 83 = 37 by decide, rfl, rfl, Or.inl ⟨rfl, hj⟩⟩⟩
            · rw [if_neg (show ¬ nI n ≤ nI k by rw [n_le (by omega) (by omega)]; omega), if_neg (show ¬ (1 : Int32) = 0 by decide)]
              have hc' : μ.1 1 (199 + 5 * k + 4) = μC.1 28 k := hr.2.2.2.2.2.2 k 4 (by omega) (by omega)
              obtain ⟨v, hv, ev, ev'⟩ := hok k (by omega)
              have hiff : (μC.1 28 k = nI v) ↔ μC.2 (3 + 2 * t) k = (μC.1 28 k).toInt64 := by
                rw [ev, i64_inj]; exact ⟨fun z => z.symm, fun z => z.symm⟩
              simp (disch := omega) only [mL_5, aL_199, aR_4, qm_0, qm_7, mL_60, nI_add', nI_toInt, nI_clamp, p_ck, p_bd, hc', ev', Int32.toInt32_toInt64, hiff, aR_1]
              by_cases hq : μC.2 (3 + 2 * t) k = (μC.1 28 k).toInt64
              · rw [if_pos hq]
                refine ⟨_, _, rfl, Or.inl ⟨rfl, i - 1, by omega, rfl, k + 1, by omega, Or.inl ⟨rfl, fun j hj' => ?_⟩⟩⟩
                by_cases ej : j = k
                · subst ej; exact hq
                · exact hj j (by omega)
              · rw [if_neg hq]
                exact ⟨_, _, rfl, Or.inl ⟨rfl, i - 1, by omega, rfl, k + 1, by omega, Or.inr ⟨rfl, fun z => hq (z k (by omega))⟩⟩⟩
          · unfold fX12_isJust_s37
            refine ⟨(83, (0, 0)), _, ?_, Or.inr ⟨by decide, rfl, rfl, Or.inr ⟨rfl, hj⟩⟩⟩
            rw [if_pos (rfl : (0 : Int32) = 0)]
            split <;> rfl)
        o_fuel n (1, 0) μM (fu (by omega)) ⟨rfl, 0, by omega, Or.inl ⟨rfl, fun j hj => by omega⟩⟩
      rw [q1, q2, p_bd, p_bd, if_pos hE2]
      rcases hE with ⟨rfl, a1⟩ | ⟨rfl, a1⟩ <;> rcases hE3 with ⟨r1, a2⟩ | ⟨r1, a2⟩
      · rw [r1]; exact eq2_st h _ _ rfl rfl
      · exact absurd a1 a2
      · exact absurd a2 a1
      · rw [r1]; exact eq2_st h _ _ rfl rfl
    · have hc2 : ¬ nI (cC (bV μC 10)) = nI n := fun z => hc (by have := congrArg Int32.toInt z; rw [nI_toInt (by omega), nI_toInt (by omega)] at this; omega)
      have q : o_lp 37 (fX12_isJust_s37 rfM 0 (nI t) (nI n)) o_fuel (0, 0) μM = some ((83, (0, 0)), μM) := by
        refine p_lp (n := 0 + 1) (p_lp_exit ?_ (by decide)) (by omega)
        unfold fX12_isJust_s37
        rw [if_pos (rfl : (0 : Int32) = 0)]
        split <;> rfl
      rw [if_neg hc2, if_neg hc2, q]
      exact eq2_st h _ _ rfl rfl
  · rw [if_neg hs, if_neg hs2]; exact eq2_st h _ _ rfl rfl
/-- how often a row can be read: class and reference count alike -/
def wR (μC μM μ1 μ2 : o_Mem) : Prop := μ1.1 = μC.1 ∧ μ2.1 = μM.1 ∧ (∀ i, i ≠ 155 → μ1.2 i = μC.2 i) ∧ (∀ i, i ≠ 11 → μ2.2 i = μM.2 i) ∧ ∀ j, j < 13 → μ1.2 155 j = μ2.2 11 j
theorem reads_in {t n c m : Nat} (hw : wfV (bV μC 10)) (hr : vR (bV μC 10) (μM.1 1)) (ht : t < 4) (hn : n ≤ 12) (hok : rowOk μC μM m t n) (hc : c < cC (bV μC 10)) {μ1 μ2 : o_Mem} (hI : wR μC μM μ1 μ2) : ∃ m1 m2, o_lp 30 (fX5_waysAlong_s30 rfC 148 23 (2 + 2 * t) (nI n) (nI c)) o_fuel (nI n) μ1 = some ((82, 0), m1) ∧ o_lp 68 (fX12_reads_s68 rfM 0 (nI t) (nI n) (nI c)) o_fuel (nI n) μ2 = some ((122, 0), m2) ∧ wR μC μM m1 m2 := by
  have b := hw.1.2.2.2.2.2.2
  obtain ⟨e1, m1, e2, m2, q1, q2, rfl, rfl, hE⟩ := lp_rel (h1 := 30) (h2 := 68) (s1 := fX5_waysAlong_s30 rfC 148 23 (2 + 2 * t) (nI n) (nI c)) (s2 := fX12_reads_s68 rfM 0 (nI t) (nI n) (nI c))
    (fun k τ1 μ1 τ2 μ2 => k ≤ n ∧ τ1 = nI k ∧ τ2 = nI k ∧ wR μC μM μ1 μ2)
    (fun e1 m1 e2 m2 => e1 = (82, 0) ∧ e2 = (122, 0) ∧ wR μC μM m1 m2)
    (fun k τ1 μ1 τ2 μ2 hR => by
      obtain ⟨hk, rfl, rfl, hI⟩ := hR
      unfold fX5_waysAlong_s30 fX12_reads_s68 fX12_coverRow fX12_rowAt
      cases k with
      | zero =>
        rw [if_pos (show nI 0 < 1 by decide), if_pos (show nI 0 ≤ 0 by decide)]
        exact ⟨_, _, _, _, rfl, rfl, Or.inr ⟨by decide, by decide, rfl, rfl, hI⟩⟩
      | succ k =>
        obtain ⟨i1, i2, i3, i4, i5⟩ := hI
        have hc' : μM.1 1 (199 + 5 * c + 4) = μC.1 28 c := hr.2.2.2.2.2.2 c 4 (by omega) (by omega)
        obtain ⟨v, hv, ev, ev'⟩ := hok k (by omega)
        have hiff : (μC.1 28 c = nI v) ↔ μC.2 (3 + 2 * t) k = (μC.1 28 c).toInt64 := by
          rw [ev, i64_inj]; exact ⟨fun z => z.symm, fun z => z.symm⟩
        rw [if_neg (show ¬ nI (k + 1) < 1 by rw [i32_lt, nI_toInt (by omega), c32_1]; omega), if_neg (show ¬ nI (k + 1) ≤ 0 by rw [i32_le, nI_toInt (by omega), c32_0]; omega)]
        simp (disch := omega) only [nI_pred, rcT ht, rc23_5, rc148_1, mL_5, aL_199, aR_4, qm_0, qm_7, qm_26, mL_60, nI_add', nI_toInt, nI_clamp, p_ck, p_bd, i1, i2, hc', i3 (3 + 2 * t) (by omega), i4 5 (by omega), ev', Int32.toInt32_toInt64, hiff, p_seq, nI_m1]
        by_cases hq : μC.2 (3 + 2 * t) k = (μC.1 28 c).toInt64
        · rw [if_pos hq, if_pos hq]
          refine ⟨_, _, _, _, rfl, rfl, Or.inl ⟨rfl, rfl, k, by omega, by omega, rfl, rfl, i1, i2, fun i hi => by rw [p_wL_o hi]; exact i3 i hi, fun i hi => by rw [p_wL_o hi]; exact i4 i hi, fun j hj => ?_⟩⟩
          rw [p_wL2, p_wL2]
          by_cases ej : j = k + 1
          · rw [if_pos ⟨rfl, ej⟩, if_pos ⟨rfl, ej⟩, i5 _ (by omega), i5 _ (by omega)]
          · rw [if_neg (fun z => ej z.2), if_neg (fun z => ej z.2)]; exact i5 j hj
        · rw [if_neg hq, if_neg hq]
          exact ⟨_, _, _, _, rfl, rfl, Or.inl ⟨rfl, rfl, k, by omega, by omega, rfl, rfl, i1, i2, i3, i4, i5⟩⟩)
    o_fuel n (nI n) μ1 (nI n) μ2 (fu (by omega)) ⟨Nat.le_refl _, rfl, rfl, hI⟩
  exact ⟨m1, m2, q1, q2, hE⟩
theorem bV_0 (μ : o_Mem) (k : Nat) (x : Int32) : bV (o_wI μ 0 k x) 10 = bV μ 10 := by
  funext j i
  show (o_wI μ 0 k x).1 (10 + j) i = μ.1 (10 + j) i
  rw [p_wI_o (by omega)]
theorem pu_reads (h : Inv μC μM) (x y : Int32) : o_Eq2 (fX11_reads rfC 0 x y μC) (fX12_reads rfM 0 x y μM) Inv := by
  obtain ⟨hw, hr⟩ := Inv_v h
  have b := hw.1.2.2.2.2.2.2
  have e : μC.1 23 0 = nI (cC (bV μC 10)) := hw.1.2.2.2.2.2.1
  have e' : μM.1 1 5 = nI (cC (bV μC 10)) := hr.1.2.2.2.2.2.1.trans hw.1.2.2.2.2.2.1
  obtain ⟨s, e1, e2, hs⟩ := e_srow h x y
  unfold fX11_reads fX12_reads
  rw [e1, e2, p_bd, p_bd]
  rcases hs with ⟨rfl, t, n, m, ht, rfl, rfl, hn1, hn2, hnm, hd, hok⟩ | ⟨hs, hs2⟩
  · rw [if_pos rfl, if_pos (by decide), p_seq, p_ck _ (by rw [nI_toInt (by omega)]; omega), rc0_4, rc10_16, rc0_3, nI_clamp (by omega), rc1, rc0_17]
    unfold fX5_waysAlong
    rw [p_seq, p_seq, rc148_1]
    obtain ⟨μi, g1, g2, g3, g4⟩ := lp_inv (head := 21) (e := 51) (step := fX12_reads_s21 rfM 0 (nI t) (nI n)) (fun k μ => μ.1 = μM.1 ∧ (∀ i, i ≠ 11 → μ.2 i = μM.2 i) ∧ ∀ j, j < k → μ.2 11 j = if j = 0 then 1 else 0) (N := 13) (k0 := 0)
      (fun k μ _ hk ⟨i1, i2, i3⟩ => by
        unfold fX12_reads_s21 fX12_reads_j44
        rw [if_neg (show ¬ 12 < nI k by rw [i32_lt, nI_toInt (by omega), c32_12]; omega)]
        simp (disch := omega) only [qm_26, nI_toInt, nI_clamp, p_ck, p_seq, aR_1]
        by_cases h0 : k = 0
        · subst h0
          rw [if_pos (show nI 0 = 0 from rfl)]
          refine ⟨_, rfl, i1, fun i hi => by rw [p_wL_o hi]; exact i2 i hi, fun j hj => ?_⟩
          rw [p_wL2, if_pos ⟨rfl, by omega⟩, if_pos (by omega)]
        · rw [if_neg (show ¬ nI k = 0 by rw [i32_eq, nI_toInt (by omega), c32_0]; omega)]
          refine ⟨_, rfl, i1, fun i hi => by rw [p_wL_o hi]; exact i2 i hi, fun j hj => ?_⟩
          rw [p_wL2]
          by_cases ej : j = k
          · rw [if_pos ⟨rfl, ej⟩, if_neg (by omega)]
          · rw [if_neg (fun z => ej z.2)]; exact i3 j (by omega))
      (fun μ _ => by unfold fX12_reads_s21; rw [if_pos (show (12 : Int32) < nI 13 by decide)]) (by decide) 13 0 μM (by omega) (by omega) ⟨rfl, fun _ _ => rfl, fun j hj => by omega⟩
    rw [show o_lp 21 (fX12_reads_s21 rfM 0 (nI t) (nI n)) o_fuel 0 μM = _ from p_lp g1 (by omega), p_bd, if_pos rfl]
    obtain ⟨f1, m1, f2, m2, q1, q2, rfl, rfl, i1, i2, i3, i4, i5⟩ := lp_rel (h1 := 18) (h2 := 54) (s1 := fX5_waysAlong_s18 rfC 148 23 (2 + 2 * t) (nI n)) (s2 := fX12_reads_s54 rfM 0 (nI t) (nI n))
      (fun i τ1 μ1 τ2 μ2 => ∃ c, c + i = cC (bV μC 10) ∧ τ1 = nI c ∧ τ2 = nI c ∧ wR (o_wI μC 0 0 0) μM μ1 μ2)
      (fun e1 m1 e2 m2 => e1 = (88, 0) ∧ e2 = (128, 0) ∧ wR (o_wI μC 0 0 0) μM m1 m2)
      (fun i τ1 μ1 τ2 μ2 hR => by
        obtain ⟨c, hc, rfl, rfl, hI⟩ := hR
        have j1 := hI.1
        have j2 := hI.2.1
        have e9 : (o_wI μC 0 0 0).1 23 0 = nI (cC (bV μC 10)) := e
        unfold fX5_waysAlong_s18 fX12_reads_s54
        rw [qm_0, j1, j2, e9, e']
        by_cases hi : i = 0
        · rw [if_pos (show nI (cC (bV μC 10)) ≤ nI c by rw [n_le (by omega) (by omega)]; omega), if_pos (show nI (cC (bV μC 10)) ≤ nI c by rw [n_le (by omega) (by omega)]; omega)]
          exact ⟨_, _, _, _, rfl, rfl, Or.inr ⟨by decide, by decide, rfl, rfl, hI⟩⟩
        · rw [if_neg (show ¬ nI (cC (bV μC 10)) ≤ nI c by rw [n_le (by omega) (by omega)]; omega), if_neg (show ¬ nI (cC (bV μC 10)) ≤ nI c by rw [n_le (by omega) (by omega)]; omega)]
          obtain ⟨m1, m2, r1, r2, r3⟩ := reads_in (μC := o_wI μC 0 0 0) (μM := μM) (t := t) (n := n) (c := c) (m := cS (bV μC 10)) (by rw [bV_0]; exact hw) (by rw [bV_0]; exact hr) ht hn2 hok (by rw [bV_0]; omega) hI
          rw [r1, r2, p_bd, p_bd, if_pos rfl, if_pos rfl, aR_1]
          exact ⟨_, _, _, _, rfl, rfl, Or.inl ⟨rfl, rfl, i - 1, by omega, c + 1, by omega, rfl, rfl, r3⟩⟩)
      o_fuel (cC (bV μC 10)) 0 (o_wL (o_sL (o_wI μC 0 0 0) 155 (o_fill ((o_wI μC 0 0 0).2 155) 13 0)) 155 0 1) 0 μi (fu (by omega))
      ⟨0, by omega, rfl, rfl, rfl, g2, fun i hi => by rw [p_wL_o hi, p_sL_o hi], g3, fun j hj => by
        rw [g4 j hj, p_wL2]
        by_cases e0 : j = 0
        · rw [if_pos ⟨rfl, e0⟩, if_pos e0]
        · rw [if_neg (fun z => e0 z.2), if_neg e0, p_sL2, if_pos rfl]
          unfold o_fill
          rw [if_pos hj]⟩
    rw [q1, q2, p_bd, p_bd, if_pos rfl, if_pos rfl, is_0, p_bd]
    simp (disch := omega) only [nI_toInt, nI_clamp, p_ck, qm_26, p_wI2, i5 n (by omega)]
    refine ⟨_, _, _, rfl, rfl, Inv_c ?_ (fun i p q => ?_) ?_ (fun i p q => ?_) (fun k p => ?_) h⟩
    · obtain ⟨⟨a1, a2, a3⟩, -⟩ := h
      refine ⟨?_, ?_, ?_⟩
      · rw [i1, p_wI1, p_wI1, if_pos ⟨rfl, rfl⟩, if_pos ⟨rfl, rfl⟩]
      · rw [i3 0 (by omega), p_wI2, p_wI2, i4 0 (by omega)]; exact a2
      · rw [i3 0 (by omega), p_wI2, p_wI2, i4 0 (by omega)]; exact a3
    · rw [i1, i3 i (by omega)]; exact ⟨p_wI_o (by omega), rfl⟩
    · rw [i1, p_wI1]; exact if_neg (by omega)
    · rw [p_wI_o (by omega), i2, p_wI2, i4 i (by omega)]; exact ⟨rfl, rfl⟩
    · rw [p_wI1, if_neg (by omega), i2]
  · rw [if_neg hs, if_neg hs2]; exact eq2_st h _ _ rfl rfl
end sr
