/-! ===== which weight parts two LAWS: split, splitNext ===== -/
def loS (w : Nat → Nat) (b : Nat → Bool) : Nat → Nat
  | 0 => 1
  | k + 1 => if b k then max (loS w b k) (w k + 1) else loS w b k
def hiS (w : Nat → Nat) (b : Nat → Bool) : Nat → Nat
  | 0 => 100
  | k + 1 => if b k then hiS w b k else min (hiS w b k) (w k)
theorem loS_b {w : Nat → Nat} {b : Nat → Bool} : ∀ n, (∀ k, k < n → 1 ≤ w k ∧ w k ≤ 99) → 1 ≤ loS w b n ∧ loS w b n ≤ 100
  | 0, _ => by unfold loS; omega
  | n + 1, h => by
    have h1 := loS_b (w := w) (b := b) n (fun k hk => h k (by omega))
    have h2 := h n (by omega)
    unfold loS
    split <;> omega
theorem hiS_b {w : Nat → Nat} {b : Nat → Bool} : ∀ n, (∀ k, k < n → 1 ≤ w k ∧ w k ≤ 99) → 1 ≤ hiS w b n ∧ hiS w b n ≤ 100
  | 0, _ => by unfold hiS; omega
  | n + 1, h => by
    have h1 := hiS_b (w := w) (b := b) n (fun k hk => h k (by omega))
    have h2 := h n (by omega)
    unfold hiS
    split <;> omega
theorem line_iff {w : Nat → Nat} {b : Nat → Bool} {t : Nat} (ht : 1 ≤ t) (ht2 : t ≤ 100) : ∀ n, (∀ k, k < n → (w k < t ↔ b k = true)) ↔ (loS w b n ≤ t ∧ t ≤ hiS w b n)
  | 0 => by unfold loS hiS; exact ⟨fun _ => ⟨ht, ht2⟩, fun _ k hk => by omega⟩
  | n + 1 => by
    have ih := line_iff (w := w) (b := b) ht ht2 n
    have e : (∀ k, k < n + 1 → (w k < t ↔ b k = true)) ↔ (∀ k, k < n → (w k < t ↔ b k = true)) ∧ (w n < t ↔ b n = true) := by
      refine ⟨fun h => ⟨fun k hk => h k (by omega), h n (by omega)⟩, fun h k hk => ?_⟩
      by_cases ek : k = n
      · subst ek; exact h.2
      · exact h.1 k (by omega)
    rw [e, ih, show loS w b (n + 1) = if b n = true then max (loS w b n) (w n + 1) else loS w b n from rfl, show hiS w b (n + 1) = if b n = true then hiS w b n else min (hiS w b n) (w n) from rfl]
    cases hb : b n with
    | true =>
      simp only [if_true, iff_true]
      omega
    | false =>
      simp only [Bool.false_eq_true, if_false, iff_false]
      omega
/-- the rows lie in a TRAY -/
def spD (μC μM : o_Mem) (t n : Nat) (x : Int32) (w : Nat → Nat) (b : Nat → Bool) : Prop := ∀ k, k < n → (1 ≤ w k ∧ w k ≤ 99) ∧ μC.2 (3 + 2 * t) (2 * k) = (nI (w k)).toInt64 ∧ μM.2 5 (60 * t + 2 * k) = (nI (w k)).toInt64 ∧ (μC.2 (3 + 2 * t) (2 * k + 1) = x.toInt64 ↔ b k = true) ∧ (μM.2 5 (60 * t + 2 * k + 1) = x.toInt64 ↔ b k = true)
section sl
variable {μC μM : o_Mem}
theorem e12_isWeightL (v : Int64) (μ : o_Mem) : fX12_isWeight rfM v μ = some (bI (1 ≤ v.toInt ∧ v.toInt ≤ 99), μ) := by
  unfold fX12_isWeight bI
  simp only [i64_lt, i64_le, c64_1, c64_99]
  repeat' split
  all_goals first | rfl | (exfalso; omega)
theorem e_split (h : Inv μC μM) (x y z u : Int32) : ∃ s, fX11_splitStatus rfC 0 x y z u μC = some (s, μC) ∧ fX12_wrongCovers rfM 0 x y z u μM = some (s, μM) ∧ ((s = 0 ∧ ∃ t n w b, t < 4 ∧ x = nI t ∧ y = nI n ∧ n ≤ 30 ∧ spD μC μM t n z w b) ∨ (¬ s = 0 ∧ ¬ s ≤ 0)) := by
  obtain ⟨hw, hr⟩ := Inv_v h
  have b := hw.1.1.2
  unfold fX11_splitStatus fX12_wrongCovers
  simp only [e11_within, e12_isTray, e12_isFrom, e11_row h, e8_isStrike rfC hw.1, e12_isStrike hw.1 hr, rc0_4, p_bd, bI_if, i64_of, c64_0, c64_30, qm_6]
  by_cases hy : 0 ≤ y.toInt ∧ y.toInt ≤ 30
  · rw [if_pos hy, if_pos hy]
    by_cases hz : rg z (cS (bV μC 10))
    · rw [if_pos hz, if_pos hz]
      by_cases hu : rg u (cS (bV μC 10))
      · rw [if_pos hu, if_pos hu]
        by_cases hzu : z = u
        · rw [if_pos hzu, if_pos hzu]
          split <;> exact ⟨1, rfl, rfl, Or.inr ⟨by decide, by decide⟩⟩
        · rw [if_neg hzu, if_neg hzu]
          obtain ⟨n, hn, hn2, rfl⟩ := rg_nI (x := y) (n := 31) (by omega)
          rw [mL_2]
          rcases tS_c h x (nI (2 * n)) with ⟨hx, hs⟩ | ⟨t, ht, rfl, ⟨hm, hs⟩ | ⟨m, hd, ⟨hq, hs⟩ | ⟨hq, hs⟩⟩⟩
          · rw [hs, if_neg (by decide), if_neg hx]; exact ⟨1, rfl, rfl, Or.inr ⟨by decide, by decide⟩⟩
          · rw [hs, if_neg (by decide), if_pos (show 0 ≤ (nI t).toInt ∧ (nI t).toInt < 4 by rw [nI_toInt (by omega)]; omega), nI_clamp (by omega), p_ck _ (by rw [nI_toInt (by omega)]; omega), if_pos hm]; exact ⟨2, rfl, rfl, Or.inr ⟨by decide, by decide⟩⟩
          · obtain ⟨d1, d2, d3, d4, d5, d6, d7⟩ := hd
            rw [n_le (by omega) (by omega)] at hq
            rw [hs, if_pos rfl, if_pos (show 0 ≤ (nI t).toInt ∧ (nI t).toInt < 4 by rw [nI_toInt (by omega)]; omega), nI_clamp (by omega), p_ck _ (by rw [nI_toInt (by omega)]; omega), p_ck _ (by rw [nI_toInt (by omega)]; omega), if_neg (show ¬ μM.1 4 t = -1 by rw [d6]; exact nI_nm1 (by omega)), p_ck _ (by rw [nI_toInt (by omega)]; omega), if_pos (show nI (2 * n) ≤ μM.1 4 t by rw [d6, n_le (by omega) (by omega)]; omega), rc0_3, rc1, rcT ht]
            obtain ⟨e1, m1, e2, m2, q1, q2, rfl, rfl, hE⟩ := lp_rel (h1 := 77) (h2 := 75) (s1 := fX11_splitStatus_s77 rfC (nI n) z u (3 + 2 * t)) (s2 := fX12_wrongCovers_s75 rfM 0 (nI t) (nI n) z u)
              (fun m τ1 μ1 τ2 μ2 => μ1 = μC ∧ μ2 = μM ∧ ∃ k, k + m = n ∧ τ1 = nI k ∧ τ2 = nI k ∧ ∀ j, j < k → 1 ≤ (μM.2 5 (60 * t + 2 * j)).toInt ∧ (μM.2 5 (60 * t + 2 * j)).toInt ≤ 99)
              (fun e1 m1 e2 m2 => μC = m1 ∧ μM = m2 ∧ ((e1 = (136, 0) ∧ e2 = (144, 0) ∧ ∀ j, j < n → 1 ≤ (μM.2 5 (60 * t + 2 * j)).toInt ∧ (μM.2 5 (60 * t + 2 * j)).toInt ≤ 99) ∨ (e1 = (128, 0) ∧ e2 = (136, 0))))
              (fun i τ1 μ1 τ2 μ2 hR => by
                obtain ⟨rfl, rfl, k, hk, rfl, rfl, hok⟩ := hR
                unfold fX11_splitStatus_s77 fX12_wrongCovers_s75
                by_cases hi : i = 0
                · rw [if_pos (show nI n ≤ nI k by rw [n_le (by omega) (by omega)]; omega), if_pos (show nI n ≤ nI k by rw [n_le (by omega) (by omega)]; omega)]
                  have ek : k = n := by omega
                  subst ek
                  exact ⟨_, _, _, _, rfl, rfl, Or.inr ⟨by decide, by decide, rfl, rfl, Or.inl ⟨rfl, rfl, hok⟩⟩⟩
                · rw [if_neg (show ¬ nI n ≤ nI k by rw [n_le (by omega) (by omega)]; omega), if_neg (show ¬ nI n ≤ nI k by rw [n_le (by omega) (by omega)]; omega)]
                  simp (disch := omega) only [qm_7, mL_2, mL_60, nI_add', nI_toInt, nI_clamp, p_ck, e11_within, e12_isWeightL, p_bd, bI_if, aR_1, c64_1, c64_99, d7 (2 * k) (by omega), d7 (2 * k + 1) (by omega), ← Nat.add_assoc]
                  by_cases hq : 1 ≤ (μ2.2 5 (60 * t + 2 * k)).toInt ∧ (μ2.2 5 (60 * t + 2 * k)).toInt ≤ 99
                  · rw [if_pos hq, if_pos hq]
                    have hok' : ∀ j, j < k + 1 → 1 ≤ (μ2.2 5 (60 * t + 2 * j)).toInt ∧ (μ2.2 5 (60 * t + 2 * j)).toInt ≤ 99 := fun j hj => by
                      by_cases ej : j = k
                      · subst ej; exact hq
                      · exact hok j (by omega)
                    by_cases hz1 : μ2.2 5 (60 * t + 2 * k + 1) = z.toInt64
                    · rw [if_pos hz1, if_pos hz1]
                      exact ⟨_, _, _, _, rfl, rfl, Or.inl ⟨rfl, rfl, i - 1, by omega, rfl, rfl, k + 1, by omega, rfl, rfl, hok'⟩⟩
                    · rw [if_neg hz1, if_neg hz1]
                      by_cases hz2 : μ2.2 5 (60 * t + 2 * k + 1) = u.toInt64
                      · rw [if_pos hz2, if_pos hz2]
                        exact ⟨_, _, _, _, rfl, rfl, Or.inl ⟨rfl, rfl, i - 1, by omega, rfl, rfl, k + 1, by omega, rfl, rfl, hok'⟩⟩
                      · rw [if_neg hz2, if_neg hz2]
                        exact ⟨_, _, _, _, rfl, rfl, Or.inr ⟨by decide, by decide, rfl, rfl, Or.inr ⟨rfl, rfl⟩⟩⟩
                  · rw [if_neg hq, if_neg hq]
                    exact ⟨_, _, _, _, rfl, rfl, Or.inr ⟨by decide, by decide, rfl, rfl, Or.inr ⟨rfl, rfl⟩⟩⟩)
              o_fuel n 0 μC 0 μM (fu (by omega)) ⟨rfl, rfl, 0, by omega, rfl, rfl, fun k hk => by omega⟩
            rw [q1, q2, p_bd, p_bd]
            rcases hE with ⟨rfl, rfl, hok⟩ | ⟨rfl, rfl⟩
            · refine ⟨0, rfl, rfl, Or.inl ⟨rfl, t, n, fun k => (μM.2 5 (60 * t + 2 * k)).toInt.toNat, fun k => decide (μM.2 5 (60 * t + 2 * k + 1) = z.toInt64), ht, rfl, rfl, by omega, fun k hk => ?_⟩⟩
              have hk9 := hok k hk
              have ev : μM.2 5 (60 * t + 2 * k) = (nI (μM.2 5 (60 * t + 2 * k)).toInt.toNat).toInt64 := by
                rw [← Int64.toInt_inj, i64_of, nI_toInt (by omega)]
                omega
              refine ⟨⟨by show 1 ≤ (μM.2 5 (60 * t + 2 * k)).toInt.toNat; omega, by show (μM.2 5 (60 * t + 2 * k)).toInt.toNat ≤ 99; omega⟩, (d7 (2 * k) (by omega)).trans ev, ev, ?_, ?_⟩
              · rw [d7 (2 * k + 1) (by omega)]; exact (decide_eq_true_iff).symm
              · exact (decide_eq_true_iff).symm
            · exact ⟨5, rfl, rfl, Or.inr ⟨by decide, by decide⟩⟩
          · obtain ⟨d1, d2, d3, d4, d5, d6, d7⟩ := hd
            rw [hs, if_neg (by decide), if_pos (show 0 ≤ (nI t).toInt ∧ (nI t).toInt < 4 by rw [nI_toInt (by omega)]; omega), nI_clamp (by omega), p_ck _ (by rw [nI_toInt (by omega)]; omega), if_neg (show ¬ μM.1 4 t = -1 by rw [d6]; exact nI_nm1 (by omega)), p_ck _ (by rw [nI_toInt (by omega)]; omega), if_neg (by rw [d6]; exact hq)]; exact ⟨3, rfl, rfl, Or.inr ⟨by decide, by decide⟩⟩
      · rw [if_neg hu, if_neg hu]
        split <;> exact ⟨1, rfl, rfl, Or.inr ⟨by decide, by decide⟩⟩
    · rw [if_neg hz, if_neg hz]
      split <;> exact ⟨1, rfl, rfl, Or.inr ⟨by decide, by decide⟩⟩
  · rw [if_neg hy, if_neg hy]
    split <;> exact ⟨1, rfl, rfl, Or.inr ⟨by decide, by decide⟩⟩
theorem e12_isLine {t n : Nat} {z : Int32} {w : Nat → Nat} {b : Nat → Bool} (ht : t < 4) (hn : n ≤ 30) (hd : spD μC μM t n z w b) {τ : Nat} (h1 : 1 ≤ τ) (h2 : τ ≤ 100) : fX12_isLine rfM 0 (nI t) (nI n) z (nI τ) μM = some (bI (loS w b n ≤ τ ∧ τ ≤ hiS w b n), μM) := by
  obtain ⟨f1, m1, q1, rfl, hE⟩ := lp_one (h := 3) (s := fX12_isLine_s3 rfM 0 (nI t) (nI n) z (nI τ))
    (fun m σ μ => μ = μM ∧ ∃ k, k + m = n ∧ σ = nI k ∧ ∀ j, j < k → (w j < τ ↔ b j = true))
    (fun f m1 => μM = m1 ∧ ((f = (73, 0) ∧ ∀ j, j < n → (w j < τ ↔ b j = true)) ∨ (f = (65, 0) ∧ ¬ ∀ j, j < n → (w j < τ ↔ b j = true))))
    (fun i σ μ hR => by
      obtain ⟨rfl, k, hk, rfl, hj⟩ := hR
      unfold fX12_isLine_s3 fX12_isLine_j35 fX12_isLine_j62
      by_cases hi : i = 0
      · rw [if_pos (show nI n ≤ nI k by rw [n_le (by omega) (by omega)]; omega)]
        have ek : k = n := by omega
        subst ek
        exact ⟨_, _, rfl, Or.inr ⟨by decide, rfl, Or.inl ⟨rfl, hj⟩⟩⟩
      · rw [if_neg (show ¬ nI n ≤ nI k by rw [n_le (by omega) (by omega)]; omega)]
        obtain ⟨g1, g2, g3, g4, g5⟩ := hd k (by omega)
        have hle : ((nI τ).toInt64 ≤ (nI (w k)).toInt64) ↔ ¬ w k < τ := by rw [i64_le, i64_of, i64_of, nI_toInt (by omega), nI_toInt (by omega)]; omega
        simp (disch := omega) only [qm_7, mL_2, mL_60, nI_add', aR_1, nI_toInt, nI_clamp, p_ck, g3, g5, hle]
        by_cases hw : w k < τ
        · rw [if_neg (fun z => z hw)]
          by_cases hb : b k = true
          · rw [if_pos hb, if_pos trivial]
            refine ⟨_, _, rfl, Or.inl ⟨rfl, i - 1, by omega, rfl, k + 1, by omega, rfl, fun j hj' => ?_⟩⟩
            by_cases ej : j = k
            · subst ej; exact ⟨fun _ => hb, fun _ => hw⟩
            · exact hj j (by omega)
          · rw [if_neg hb, if_neg (by decide)]
            exact ⟨_, _, rfl, Or.inr ⟨by decide, rfl, Or.inr ⟨rfl, fun z => hb ((z k (by omega)).mp hw)⟩⟩⟩
        · rw [if_pos hw]
          by_cases hb : b k = true
          · rw [if_pos hb, if_neg (by decide)]
            exact ⟨_, _, rfl, Or.inr ⟨by decide, rfl, Or.inr ⟨rfl, fun z => hw ((z k (by omega)).mpr hb)⟩⟩⟩
          · rw [if_neg hb, if_pos trivial]
            refine ⟨_, _, rfl, Or.inl ⟨rfl, i - 1, by omega, rfl, k + 1, by omega, rfl, fun j hj' => ?_⟩⟩
            by_cases ej : j = k
            · subst ej; exact ⟨fun z => absurd z hw, fun z => absurd z hb⟩
            · exact hj j (by omega))
    o_fuel n 0 μM (fu (by omega)) ⟨rfl, 0, by omega, rfl, fun j hj => by omega⟩
  unfold fX12_isLine
  rw [q1, p_bd]
  rcases hE with ⟨rfl, a⟩ | ⟨rfl, a⟩
  · rw [bI_t ((line_iff h1 h2 n).mp a)]; rfl
  · rw [bI_f (fun z => a ((line_iff h1 h2 n).mpr z))]; rfl
theorem e12_lines {t n : Nat} {z : Int32} {w : Nat → Nat} {b : Nat → Bool} (ht : t < 4) (hn : n ≤ 30) (hd : spD μC μM t n z w b) {l m : Nat} (h1 : 1 ≤ l) (h2 : m ≤ 100) (hlm : l ≤ m + 1) : fX12_linesFrom rfM 0 (nI t) (nI n) z (nI l) (nI m) μM = some (nI (min (m + 1) (hiS w b n + 1) - max l (loS w b n)), μM) := by
  have hhi := (hiS_b (w := w) (b := b) n (fun k hk => (hd k hk).1))
  obtain ⟨f1, m1, q1, rfl, rfl⟩ := lp_one (h := 7) (s := fX12_linesFrom_s7 rfM 0 (nI t) (nI n) z (nI m))
    (fun i σ μ => μ = μM ∧ ∃ k, k + i = m + 1 ∧ l ≤ k ∧ σ = (nI (min k (hiS w b n + 1) - max l (loS w b n)), nI k))
    (fun f m1 => μM = m1 ∧ f = (42, (nI (min (m + 1) (hiS w b n + 1) - max l (loS w b n)), 0)))
    (fun i σ μ hR => by
      obtain ⟨rfl, k, hk, hl, rfl⟩ := hR
      unfold fX12_linesFrom_s7 fX12_linesFrom_j33
      by_cases hi : i = 0
      · rw [if_pos (show nI m < nI k by rw [n_lt (by omega) (by omega)]; omega)]
        have ek : k = m + 1 := by omega
        subst ek
        exact ⟨_, _, rfl, Or.inr ⟨show ¬ 42 = 7 by decide, rfl, rfl⟩⟩
      · rw [if_neg (show ¬ nI m < nI k by rw [n_lt (by omega) (by omega)]; omega), e12_isLine (μC := μC) ht hn hd (by omega) (by omega), p_bd, bI_if]
        by_cases hq : loS w b n ≤ k ∧ k ≤ hiS w b n
        · rw [if_pos hq]
          refine ⟨_, _, rfl, Or.inl ⟨rfl, i - 1, by omega, rfl, k + 1, by omega, by omega, ?_⟩⟩
          show (nI _ + 1, nI k + 1) = _
          rw [aR_1, aR_1, show min k (hiS w b n + 1) - max l (loS w b n) + 1 = min (k + 1) (hiS w b n + 1) - max l (loS w b n) by omega]
        · rw [if_neg hq]
          refine ⟨_, _, rfl, Or.inl ⟨rfl, i - 1, by omega, rfl, k + 1, by omega, by omega, ?_⟩⟩
          show (nI _ + 0, nI k + 1) = _
          rw [o_add0, aR_1, show min k (hiS w b n + 1) - max l (loS w b n) = min (k + 1) (hiS w b n + 1) - max l (loS w b n) by omega])
    o_fuel (m + 1 - l) (0, nI l) μM (fu (by omega)) ⟨rfl, l, by omega, Nat.le_refl _, by rw [show min l (hiS w b n + 1) - max l (loS w b n) = 0 by omega]; rfl⟩
  unfold fX12_linesFrom
  rw [q1]
  rfl
theorem e5_splitBy {t n : Nat} {z : Int32} {w : Nat → Nat} {b : Nat → Bool} (ht : t < 4) (hn : n ≤ 30) (hd : spD μC μM t n z w b) : ∃ m1, fX5_splitBy rfC 148 (2 + 2 * t) (nI n) z μC = some ((), m1) ∧ (∀ i, i ≠ 148 → m1.1 i = μC.1 i) ∧ m1.2 = μC.2 ∧ m1.1 148 2 = nI (loS w b n) ∧ m1.1 148 3 = nI (hiS w b n) := by
  obtain ⟨f1, m1, q1, rfl, i1, i2, i3, i4⟩ := lp_one (h := 14) (s := fX5_splitBy_s14 rfC 148 (2 + 2 * t) (nI n) z)
    (fun m σ μ => ∃ k, k + m = n ∧ σ = nI k ∧ (∀ i, i ≠ 148 → μ.1 i = μC.1 i) ∧ μ.2 = μC.2 ∧ μ.1 148 2 = nI (loS w b k) ∧ μ.1 148 3 = nI (hiS w b k))
    (fun f μ => f = (86, 0) ∧ (∀ i, i ≠ 148 → μ.1 i = μC.1 i) ∧ μ.2 = μC.2 ∧ μ.1 148 2 = nI (loS w b n) ∧ μ.1 148 3 = nI (hiS w b n))
    (fun i σ μ hR => by
      obtain ⟨k, hk, rfl, i1, i2, i3, i4⟩ := hR
      have b1 := loS_b (w := w) (b := b) k (fun j hj => (hd j (by omega)).1)
      have b2 := hiS_b (w := w) (b := b) k (fun j hj => (hd j (by omega)).1)
      unfold fX5_splitBy_s14
      by_cases hi : i = 0
      · rw [if_pos (show nI n ≤ nI k by rw [n_le (by omega) (by omega)]; omega)]
        have ek : k = n := by omega
        subst ek
        exact ⟨_, _, rfl, Or.inr ⟨by decide, rfl, i1, i2, i3, i4⟩⟩
      · rw [if_neg (show ¬ nI n ≤ nI k by rw [n_le (by omega) (by omega)]; omega)]
        obtain ⟨g1, g2, g3, g4, g5⟩ := hd k (by omega)
        simp (disch := omega) only [rcT ht, mL_2, aR_1, nI_toInt, nI_clamp, p_ck, i2, i3, i4, g2, g4, Int32.toInt32_toInt64, p_seq]
        by_cases hb : b k = true
        · rw [if_pos hb]
          refine ⟨_, _, rfl, Or.inl ⟨rfl, i - 1, by omega, k + 1, by omega, rfl, fun i hi => by rw [p_wI_o hi]; exact i1 i hi, i2, ?_, ?_⟩⟩
          · rw [p_wI1, if_pos ⟨rfl, rfl⟩]
            show _ = nI (if b k = true then max (loS w b k) (w k + 1) else loS w b k)
            rw [if_pos hb]
            by_cases hc : loS w b k < w k + 1
            · rw [if_pos (show nI (loS w b k) < nI (w k + 1) by rw [n_lt (by omega) (by omega)]; omega), show max (loS w b k) (w k + 1) = w k + 1 by omega]
            · rw [if_neg (show ¬ nI (loS w b k) < nI (w k + 1) by rw [n_lt (by omega) (by omega)]; omega), show max (loS w b k) (w k + 1) = loS w b k by omega]
          · rw [p_wI1, if_neg (by omega), i4]
            show _ = nI (if b k = true then hiS w b k else min (hiS w b k) (w k))
            rw [if_pos hb]
        · rw [if_neg hb]
          refine ⟨_, _, rfl, Or.inl ⟨rfl, i - 1, by omega, k + 1, by omega, rfl, fun i hi => by rw [p_wI_o hi]; exact i1 i hi, i2, ?_, ?_⟩⟩
          · rw [p_wI1, if_neg (by omega), i3]
            show _ = nI (if b k = true then max (loS w b k) (w k + 1) else loS w b k)
            rw [if_neg hb]
          · rw [p_wI1, if_pos ⟨rfl, rfl⟩]
            show _ = nI (if b k = true then hiS w b k else min (hiS w b k) (w k))
            rw [if_neg hb]
            by_cases hc : w k < hiS w b k
            · rw [if_pos (show nI (w k) < nI (hiS w b k) by rw [n_lt (by omega) (by omega)]; omega), show min (hiS w b k) (w k) = w k by omega]
            · rw [if_neg (show ¬ nI (w k) < nI (hiS w b k) by rw [n_lt (by omega) (by omega)]; omega), show min (hiS w b k) (w k) = hiS w b k by omega])
    o_fuel n 0 (o_wI (o_wI μC 148 2 1) 148 3 100) (fu (by omega)) ⟨0, by omega, rfl, fun i hi => by rw [p_wI_o hi, p_wI_o hi], rfl, rfl, rfl⟩
  unfold fX5_splitBy
  rw [p_seq, p_seq, q1]
  exact ⟨m1, rfl, i1, i2, i3, i4⟩
theorem mxS {a b : Nat} (ha : a ≤ 1000) (hb : b ≤ 1000) : (if 0 < nI a - nI b + 1 then nI a - nI b + 1 else 0) = nI (a + 1 - b) := by
  have e : (nI a - nI b + 1).toInt = (a : Int) - b + 1 := by
    rw [Int32.toInt_add, pk_sub_toInt (by omega) (by omega), c32_1]
    apply Int.bmod_eq_of_le <;> omega
  by_cases h : b ≤ a
  · rw [if_pos (show 0 < nI a - nI b + 1 by rw [i32_lt, e, c32_0]; omega), i32_eq, e, nI_toInt (by omega)]
    omega
  · rw [if_neg (show ¬ 0 < nI a - nI b + 1 by rw [i32_lt, e, c32_0]; omega), show a + 1 - b = 0 by omega]
    rfl
theorem mnS {a b : Nat} (ha : a ≤ 1000) (hb : b ≤ 1000) : (if nI a > nI b then nI b else nI a) = nI (min a b) := by
  by_cases h : b < a
  · rw [if_pos (show nI b < nI a by rw [n_lt (by omega) (by omega)]; omega), show min a b = b by omega]
  · rw [if_neg (show ¬ nI b < nI a by rw [n_lt (by omega) (by omega)]; omega), show min a b = a by omega]
theorem mmS {a b : Nat} (ha : a ≤ 1000) (hb : b ≤ 1000) : (if nI a < nI b then nI b else nI a) = nI (max a b) := by
  by_cases h : a < b
  · rw [if_pos (show nI a < nI b by rw [n_lt (by omega) (by omega)]; omega), show max a b = b by omega]
  · rw [if_neg (show ¬ nI a < nI b by rw [n_lt (by omega) (by omega)]; omega), show max a b = a by omega]
theorem nI_sub2 {a b : Nat} (h : b ≤ a) : nI a - nI b = nI (a - b) := by
  rw [show a = (a - b) + b by omega, ← nI_add', show a - b + b - b = a - b by omega]
  simp
theorem e5_splits {μ : o_Mem} {l k : Nat} (hl : l ≤ 100) (hk : k ≤ 100) (h2 : μ.1 148 2 = nI l) (h3 : μ.1 148 3 = nI k) : fX5_splits rfC 148 μ = some (nI (k + 1 - l), μ) := by
  unfold fX5_splits
  rw [h2, h3, mxS (by omega) (by omega)]
theorem pu_split (h : Inv μC μM) (x y z u : Int32) : o_Eq2 (fX11_split rfC 0 x y z u μC) (fX12_split rfM 0 x y z u μM) Inv := by
  obtain ⟨s, e1, e2, hs⟩ := e_split h x y z u
  unfold fX11_split fX12_split
  rw [e1, e2, p_bd, p_bd]
  rcases hs with ⟨rfl, t, n, w, b, ht, rfl, rfl, hn, hd⟩ | ⟨hs, hs2⟩
  · obtain ⟨m1, q1, q2, q3, q4, q5⟩ := e5_splitBy ht hn hd
    have b1 := loS_b (w := w) (b := b) n (fun j hj => (hd j (by omega)).1)
    have b2 := hiS_b (w := w) (b := b) n (fun j hj => (hd j (by omega)).1)
    rw [if_pos rfl, if_pos (by decide), p_ck _ (by rw [nI_toInt (by omega)]; omega), rc0_17, rc0_3, nI_clamp (by omega), rc1, q1, p_bd, e5_splits (by omega) (by omega) q4 q5, p_bd, e11_gives, p_bd, show fX12_linesFrom rfM 0 (nI t) (nI n) z 1 100 μM = _ from e12_lines (μC := μC) (l := 1) (m := 100) ht hn hd (by omega) (by omega) (by omega), p_bd, e12_gives, p_bd, show min (100 + 1) (hiS w b n + 1) - max 1 (loS w b n) = hiS w b n + 1 - loS w b n by omega]
    have hI : Inv m1 μM := Inv_scr h (fun i hi => q2 i (by omega)) (fun i _ => by rw [q3]) (fun k _ => rfl) (fun i a c => rfl) (fun i _ => rfl)
    exact eq2_st hI _ _ rfl rfl
  · rw [if_neg hs, if_neg hs2]; exact eq2_st h _ _ rfl rfl
theorem pu_splitNext (h : Inv μC μM) (x y z u : Int32) : o_Eq2 (fX11_splitNext rfC 0 x y z u μC) (fX12_splitNext rfM 0 x y z u μM) Inv := by
  obtain ⟨s, e1, e2, hs⟩ := e_split h x y z u
  unfold fX11_splitNext fX12_splitNext
  rw [e1, e2, p_bd, p_bd]
  rcases hs with ⟨rfl, t, n, w, b, ht, rfl, rfl, hn, hd⟩ | ⟨hs, hs2⟩
  · obtain ⟨m1, q1, q2, q3, q4, q5⟩ := e5_splitBy ht hn hd
    have b1 := loS_b (w := w) (b := b) n (fun j hj => (hd j (by omega)).1)
    have b2 := hiS_b (w := w) (b := b) n (fun j hj => (hd j (by omega)).1)
    rw [if_pos rfl, if_pos (by decide), p_ck _ (by rw [nI_toInt (by omega)]; omega), rc0_17, rc0_3, nI_clamp (by omega), rc1, q1, p_bd, e5_splits (by omega) (by omega) q4 q5, p_bd, show fX12_linesFrom rfM 0 (nI t) (nI n) z 1 100 μM = _ from e12_lines (μC := μC) (l := 1) (m := 100) ht hn hd (by omega) (by omega) (by omega), p_bd, show min (100 + 1) (hiS w b n + 1) - max 1 (loS w b n) = hiS w b n + 1 - loS w b n by omega]
    have hI : Inv m1 μM := Inv_scr h (fun i hi => q2 i (by omega)) (fun i _ => by rw [q3]) (fun k _ => rfl) (fun i a c => rfl) (fun i _ => rfl)
    by_cases h2 : (2 : Int32) ≤ nI (hiS w b n + 1 - loS w b n)
    · rw [if_pos h2, if_pos h2]
      obtain ⟨f1, l1, f2, l2, r1, r2, rfl, rfl, g, rfl, rfl⟩ := lp_rel (h1 := 7) (h2 := 55) (s1 := fX5_bestSplit_s7 rfC 148) (s2 := fX12_splitNext_s55 rfM 0 (nI t) (nI n) z)
        (fun i τ1 μ1 τ2 μ2 => μ1 = m1 ∧ μ2 = μM ∧ ∃ k best c d, k + i = 100 ∧ 1 ≤ k ∧ τ1 = (best, nI c, nI k) ∧ τ2 = (best, nI d, nI k) ∧ ((c = 101 ∧ d = 1000000) ∨ (c = d ∧ c ≤ 100)))
        (fun e1 p1 e2 p2 => m1 = p1 ∧ μM = p2 ∧ ∃ g, e1 = (65, (g, 0, 0)) ∧ e2 = (114, (g, 0, 0)))
        (fun i τ1 μ1 τ2 μ2 hR => by
          obtain ⟨rfl, rfl, k, best, c, d, hk, hk1, rfl, rfl, hcd⟩ := hR
          unfold fX5_bestSplit_s7 fX12_splitNext_s55
          by_cases hi : i = 0
          · rw [if_pos (show (99 : Int32) < nI k by rw [i32_lt, c32_99, nI_toInt (by omega)]; omega), if_pos (show (99 : Int32) < nI k by rw [i32_lt, c32_99, nI_toInt (by omega)]; omega)]
            exact ⟨_, _, _, _, rfl, rfl, Or.inr ⟨show ¬ 65 = 7 by decide, show ¬ 114 = 55 by decide, rfl, rfl, best, rfl, rfl⟩⟩
          · rw [if_neg (show ¬ (99 : Int32) < nI k by rw [i32_lt, c32_99, nI_toInt (by omega)]; omega), if_neg (show ¬ (99 : Int32) < nI k by rw [i32_lt, c32_99, nI_toInt (by omega)]; omega), e5_splits (by omega) (by omega) q4 q5, p_bd]
            simp (disch := omega) only [q4, q5, mnS, mxS, nI_sub2, mmS, aR_1]
            rw [show fX12_linesFrom rfM 0 (nI t) (nI n) z 1 (nI k) μ2 = _ from e12_lines (μC := μC) (l := 1) (m := k) ht hn hd (by omega) (by omega) (by omega), p_bd, show fX12_linesFrom rfM 0 (nI t) (nI n) z (nI (k + 1)) 100 μ2 = _ from e12_lines (μC := μC) (l := k + 1) (m := 100) ht hn hd (by omega) (by omega) (by omega), p_bd, mmS (by omega) (by omega), show max (min (k + 1) (hiS w b n + 1) - max 1 (loS w b n)) (min (100 + 1) (hiS w b n + 1) - max (k + 1) (loS w b n)) = max (min k (hiS w b n) + 1 - loS w b n) (hiS w b n + 1 - loS w b n - (min k (hiS w b n) + 1 - loS w b n)) by omega]
            generalize hv : max (min k (hiS w b n) + 1 - loS w b n) (hiS w b n + 1 - loS w b n - (min k (hiS w b n) + 1 - loS w b n)) = v
            have hv100 : v ≤ 100 := by omega
            by_cases hlt : v < c
            · rw [if_neg (show ¬ nI c ≤ nI v by rw [n_le (by omega) (by omega)]; omega), if_pos (show nI v < nI d by rw [n_lt (by omega) (by omega)]; omega)]
              exact ⟨_, _, _, _, rfl, rfl, Or.inl ⟨rfl, rfl, i - 1, by omega, rfl, rfl, k + 1, nI k, v, v, by omega, by omega, rfl, rfl, Or.inr ⟨rfl, hv100⟩⟩⟩
            · rw [if_pos (show nI c ≤ nI v by rw [n_le (by omega) (by omega)]; omega), if_neg (show ¬ nI v < nI d by rw [n_lt (by omega) (by omega)]; omega)]
              exact ⟨_, _, _, _, rfl, rfl, Or.inl ⟨rfl, rfl, i - 1, by omega, rfl, rfl, k + 1, best, c, d, by omega, by omega, rfl, rfl, hcd⟩⟩)
        o_fuel 99 ((-1), 101, 1) m1 ((-1), 1000000, 1) μM (fu (by omega)) ⟨rfl, rfl, 1, -1, 101, 1000000, by omega, by omega, rfl, rfl, Or.inl ⟨rfl, rfl⟩⟩
      unfold fX5_bestSplit
      rw [r1, r2, p_bd, p_bd, if_pos rfl, if_pos rfl, p_bd, e11_gives, e12_gives, p_bd, p_bd]
      exact eq2_st hI _ _ rfl rfl
    · rw [if_neg h2, if_neg h2]; exact eq2_st hI _ _ rfl rfl
  · rw [if_neg hs, if_neg hs2]; exact eq2_st h _ _ rfl rfl
end sl
