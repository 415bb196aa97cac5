/-! ===== the reference's ANSWERS ===== -/
section em
variable {g : Nat → Nat → Int32} {μC μM : o_Mem}
def eR (g : Nat → Nat → Int32) (c : Nat) (x : Int32) : Prop := (vC g c ∧ ((gN g c = none ∧ x = -1) ∨ (gN g c = some none ∧ x = -2) ∨ (lv (gN g) c ∧ x = nI (nxt (gN g) c)))) ∨ (¬ vC g c ∧ x = -1)
theorem nI_d6 {c : Nat} (h : c < 2 ^ 31) : nI c / 6 = nI (c / 6) := pk_div (a := c) (d := 6) h (by omega) (by omega)
theorem nI_m6 {c : Nat} (h : c < 2 ^ 31) : nI c - nI (c / 6) * 6 = nI (c % 6) := by
  rw [← nI_d6 h]
  exact pk_rem (a := c) (d := 6) h (by omega) (by omega)
theorem e12_lays {m : o_Mem} (hw : wfV g) (hr : vR g (m.1 1)) : ∃ m', fX12_laysEchoes rfM 0 m = some ((), m') ∧ (∀ i, i ≠ 10 → m'.1 i = m.1 i) ∧ m'.2 = m.2 ∧ ∀ c, c < 36 → eR g c (m'.1 10 c) := by
  have bP := hw.1.2.2.1.2
  have bS := hw.1.1.2
  obtain ⟨e1, m1, q1, rfl, F1, F2, F3⟩ := lp_one (h := 2) (s := fX12_laysEchoes_s2 rfM 0)
    (fun i τ μ => ∃ k, k + i = 36 ∧ τ = nI k ∧ (∀ i, i ≠ 10 → μ.1 i = m.1 i) ∧ μ.2 = m.2 ∧ ∀ c, c < k → eR g c (μ.1 10 c))
    (fun e μ => e = (127, 0) ∧ (∀ i, i ≠ 10 → μ.1 i = m.1 i) ∧ μ.2 = m.2 ∧ ∀ c, c < 36 → eR g c (μ.1 10 c))
    (fun i τ μ hR => by
      obtain ⟨c, hk, rfl, h1, h2, h3⟩ := hR
      by_cases hi : i = 0
      · refine ⟨(127, 0), μ, ?_, Or.inr ⟨show ¬ 127 = 2 by decide, rfl, h1, h2, fun c hc => h3 c (by omega)⟩⟩
        unfold fX12_laysEchoes_s2
        rw [show (36 : Int32) = nI 36 from rfl, if_pos ((n_le (by omega) (by omega)).mpr (by omega))]
      · have key : ∃ l : o_Mem, fX12_laysEchoes_s2 rfM 0 (nI c) μ = some ((2, nI (c + 1)), l) ∧ (∀ i, i ≠ 10 → l.1 i = μ.1 i) ∧ l.2 = μ.2 ∧ (∀ d, ¬ d = c → l.1 10 d = μ.1 10 d) ∧ eR g c (l.1 10 c) := by
          have eP : μ.1 1 2 = nI (cP g) := by rw [h1 1 (by omega)]; exact hr.1.2.2.1.trans hw.1.2.2.1.1
          have eS : μ.1 1 0 = nI (cS g) := by rw [h1 1 (by omega)]; exact hr.1.1.trans hw.1.1.1
          unfold fX12_laysEchoes_s2 fX12_laysEchoes_j52
          rw [show (36 : Int32) = nI 36 from rfl, if_neg (fun z => by rw [n_le (by omega) (by omega)] at z; omega), qm_0, eP, eS, nI_d6 (by omega), nI_m6 (by omega)]
          have one : ∀ x2 : Int32, fX12_laysEchoes_j53 rfM 0 (nI c) x2 (-1) μ = some ((2, nI (c + 1)), o_wI μ 10 c (-1)) := fun x2 => by
            unfold fX12_laysEchoes_j53
            rw [qm_25]
            simp (disch := omega) only [nI_toInt, nI_clamp, p_ck, p_seq, aR_1]
            rfl
          by_cases hp : c / 6 < cP g
          · rw [if_neg (fun z => by rw [n_le (by omega) (by omega)] at z; omega)]
            by_cases hs : c % 6 < cS g
            · rw [if_neg (fun z => by rw [n_le (by omega) (by omega)] at z; omega)]
              have hv : vC g c := ⟨hp, hs⟩
              obtain ⟨r5, r6⟩ := hr.2.2.2.2.1 (c / 6) (c % 6) hp hs
              rw [Nat.div_add_mod] at r5 r6
              have e79 : (79 : Int32) + 2 * (6 * nI (c / 6) + nI (c % 6)) = nI (79 + 2 * c) := by
                rw [mL_6, nI_add', mL_2, aL_79, Nat.div_add_mod]
              unfold fX12_actRow
              rw [p_bd, e79]
              simp (disch := omega) only [nI_toInt, nI_clamp, p_ck]
              rw [h1 1 (by omega), r5]
              rcases gN_ok hw hv with ⟨hg5, e⟩ | ⟨q, hq1, hq2, hq⟩
              · rw [hg5, one]
                exact ⟨_, rfl, fun i hi => p_wI_o hi, rfl, fun d hd => by rw [p_wI1, if_neg (fun z => hd z.2)], Or.inl ⟨hv, Or.inl ⟨e, by rw [p_wI1, if_pos ⟨rfl, rfl⟩]⟩⟩⟩
              · have hne : ¬ g 5 c = -1 := by rw [hq2]; exact nI_nm1 (by omega)
                have r6' : (o_wI μ 10 c (-1)).1 1 (79 + 2 * c + 1) = g 6 c := by
                  rw [p_wI_o (by omega), h1 1 (by omega), show 79 + 2 * c + 1 = 80 + 2 * c by omega]; exact r6 hne
                have hr1 : vR g ((o_wI μ 10 c (-1)).1 1) := by rw [p_wI_o (by omega), h1 1 (by omega)]; exact hr
                unfold fX12_laysEchoes_j53 fX12_laysEchoes_j120 fX12_actRow
                rw [nI_d6 (by omega), nI_m6 (by omega), e79, qm_25, qm_0]
                simp (disch := omega) only [nI_toInt, nI_clamp, p_ck, p_seq, aR_1, p_bd]
                rw [if_neg hne, e12_hand hw hr1 hp, p_bd, r6', e12_sober _ _ _ _ hw.1 hr1, p_bd, show sob g (nI (c / 6)) (g 5 c) (g 6 c) (g 3 (c / 6)) = sbC g c from rfl]
                rcases hq with ⟨hs1, e⟩ | ⟨k, k1, k2, e, -⟩
                · rw [if_pos hs1]
                  exact ⟨_, rfl, fun i hi => by rw [p_wI_o hi, p_wI_o hi], rfl, fun d hd => by rw [p_wI1, if_neg (fun z => hd z.2), p_wI1, if_neg (fun z => hd z.2)], Or.inl ⟨hv, Or.inr (Or.inl ⟨e, by rw [p_wI1, if_pos ⟨rfl, rfl⟩]⟩)⟩⟩
                · rw [k2, if_neg (nI_nm1 (by omega)), hq2, mL_6, nI_add']
                  exact ⟨_, rfl, fun i hi => by rw [p_wI_o hi, p_wI_o hi], rfl, fun d hd => by rw [p_wI1, if_neg (fun z => hd z.2), p_wI1, if_neg (fun z => hd z.2)], Or.inl ⟨hv, Or.inr (Or.inr ⟨⟨_, e⟩, by rw [p_wI1, if_pos ⟨rfl, rfl⟩, show nxt (gN g) c = 6 * q + k by unfold nxt; rw [e]]⟩)⟩⟩
            · rw [if_pos ((n_le (by omega) (by omega)).mpr (by omega)), one]
              exact ⟨_, rfl, fun i hi => p_wI_o hi, rfl, fun d hd => by rw [p_wI1, if_neg (fun z => hd z.2)], Or.inr ⟨fun z => hs z.2, by rw [p_wI1, if_pos ⟨rfl, rfl⟩]⟩⟩
          · rw [if_pos ((n_le (by omega) (by omega)).mpr (by omega)), one]
            exact ⟨_, rfl, fun i hi => p_wI_o hi, rfl, fun d hd => by rw [p_wI1, if_neg (fun z => hd z.2)], Or.inr ⟨fun z => hp z.1, by rw [p_wI1, if_pos ⟨rfl, rfl⟩]⟩⟩
        obtain ⟨l, l1, l2, l3, l4, l5⟩ := key
        refine ⟨_, _, l1, Or.inl ⟨rfl, i - 1, by omega, c + 1, by omega, rfl, fun i hi => (l2 i hi).trans (h1 i hi), l3.trans h2, fun d hd => ?_⟩⟩
        by_cases hdc : d = c
        · rw [hdc]; exact l5
        · rw [l4 d hdc]; exact h3 d (by omega))
    o_fuel 36 0 m (fu (by omega)) ⟨0, by omega, rfl, fun i _ => rfl, rfl, fun c hc => by omega⟩
  unfold fX12_laysEchoes
  rw [q1, p_bd, if_pos rfl]
  exact ⟨_, rfl, F1, F2, F3⟩
variable {m : o_Mem} {c0 : Nat}
theorem eR_lv (he : ∀ c, c < 36 → eR g c (m.1 10 c)) (hw : wfV g) {c : Nat} (hv : vC g c) (hl : lv (gN g) c) : m.1 10 c = nI (nxt (gN g) c) := by
  have hx := lv_nxt hl
  rcases he c (vC_36 hw hv) with ⟨-, ⟨e, -⟩ | ⟨e, -⟩ | ⟨-, e⟩⟩ | ⟨e, -⟩
  · rw [e] at hx; cases hx
  · rw [e] at hx; cases hx
  · exact e
  · exact absurd hv e
theorem ef_A (he : ∀ c, c < 36 → eR g c (m.1 10 c)) (hw : wfV g) (hv : vC g c0) {n : Nat} (hA : enA (gN g) c0 n) {k : Nat} (hG : (gN g (wk (gN g) c0 n) = none ∧ k = n) ∨ (gN g (wk (gN g) c0 n) = some none ∧ k = n + 1)) : fX12_echoFrom rfM 0 (nI c0) m = some (nI k, m) := by
  obtain ⟨hn, hl, hd⟩ := hA
  obtain ⟨e1, m1, q1, rfl, hE⟩ := lp_one (h := 4) (s := fX12_echoFrom_s4 rfM 0)
    (fun N τ μ => μ = m ∧ ((∃ j, j + N = 40 ∧ j ≤ n ∧ τ = (nI (wk (gN g) c0 j), nI j)) ∨ (k = n + 1 ∧ τ = (-2, nI k))))
    (fun e μ => m = μ ∧ (e = (26, (0, nI k)) ∨ e = (14, (0, nI k))))
    (fun N τ μ hR => by
      obtain ⟨rfl, hR⟩ := hR
      unfold fX12_echoFrom_s4
      rw [qm_25]
      rcases hR with ⟨j, hN, hj, rfl⟩ | ⟨hk, rfl⟩
      · have hvj := vC_wk hw hv j (fun j' hj' => hl j' (by omega))
        have h36 := vC_36 hw hvj
        rw [if_neg (show ¬ 36 < nI j by rw [show (36 : Int32) = nI 36 from rfl, n_lt (by omega) (by omega)]; omega), if_pos (show 0 ≤ nI (wk (gN g) c0 j) by rw [show (0 : Int32) = nI 0 from rfl, n_le (by omega) (by omega)]; omega)]
        simp (disch := omega) only [nI_toInt, nI_clamp, p_ck, aR_1]
        by_cases hjn : j < n
        · have e := eR_lv he hw hvj (hl j hjn)
          have hv1 := vC_36 hw (vC_wk hw hv (j + 1) (fun j' hj' => hl j' (by omega)))
          rw [e, show nxt (gN g) (wk (gN g) c0 j) = wk (gN g) c0 (j + 1) from rfl, if_neg (nI_nm1 (by omega))]
          exact ⟨_, _, rfl, Or.inl ⟨rfl, N - 1, by omega, rfl, Or.inl ⟨j + 1, by omega, by omega, rfl⟩⟩⟩
        · have hjn2 : j = n := by omega
          rw [hjn2] at hvj h36 ⊢
          have eh := he _ h36
          rcases hG with ⟨hG, hk⟩ | ⟨hG, hk⟩
          · have e : μ.1 10 (wk (gN g) c0 n) = -1 := by
              rcases eh with ⟨-, ⟨-, e⟩ | ⟨e, -⟩ | ⟨⟨d, e⟩, -⟩⟩ | ⟨-, e⟩
              · exact e
              · rw [hG] at e; cases e
              · rw [hG] at e; cases e
              · exact e
            rw [e, if_pos rfl]
            exact ⟨_, _, rfl, Or.inr ⟨show ¬ 26 = 4 by decide, rfl, Or.inl (by rw [hk])⟩⟩
          · have e : μ.1 10 (wk (gN g) c0 n) = -2 := by
              rcases eh with ⟨-, ⟨e, -⟩ | ⟨-, e⟩ | ⟨⟨d, e⟩, -⟩⟩ | ⟨e, -⟩
              · rw [hG] at e; cases e
              · exact e
              · rw [hG] at e; cases e
              · exact absurd hvj e
            rw [e, if_neg (by decide)]
            exact ⟨_, _, rfl, Or.inl ⟨rfl, 0, by omega, rfl, Or.inr ⟨hk, by rw [hk]⟩⟩⟩
      · rw [if_neg (show ¬ 36 < nI k by rw [show (36 : Int32) = nI 36 from rfl, n_lt (by omega) (by omega)]; omega), if_neg (show ¬ (0 : Int32) ≤ -2 by decide)]
        exact ⟨_, _, rfl, Or.inr ⟨show ¬ 14 = 4 by decide, rfl, Or.inr rfl⟩⟩)
    o_fuel 40 (nI c0, 0) m (fu (by omega)) ⟨rfl, Or.inl ⟨0, by omega, by omega, rfl⟩⟩
  unfold fX12_echoFrom
  rw [q1, p_bd]
  rcases hE with rfl | rfl <;> rfl
theorem ef_B (he : ∀ c, c < 36 → eR g c (m.1 10 c)) (hw : wfV g) (hv : vC g c0) {b r : Nat} (hB : riB (gN g) c0 b r) : fX12_echoFrom rfM 0 (nI c0) m = some (-1, m) := by
  obtain ⟨e1, m1, q1, rfl, rfl⟩ := lp_one (h := 4) (s := fX12_echoFrom_s4 rfM 0)
    (fun N τ μ => μ = m ∧ ∃ j, j + N = 37 ∧ τ = (nI (wk (gN g) c0 j), nI j))
    (fun e μ => m = μ ∧ e = (41, (0, 0)))
    (fun N τ μ hR => by
      obtain ⟨rfl, j, hN, rfl⟩ := hR
      unfold fX12_echoFrom_s4
      rw [qm_25]
      by_cases hj : j = 37
      · rw [if_pos (show 36 < nI j by rw [show (36 : Int32) = nI 36 from rfl, n_lt (by omega) (by omega)]; omega)]
        exact ⟨_, _, rfl, Or.inr ⟨show ¬ 41 = 4 by decide, rfl, rfl⟩⟩
      · have hvj := vC_wk hw hv j (fun j' _ => ri_lv hB j')
        have h36 := vC_36 hw hvj
        have hv1 := vC_36 hw (vC_wk hw hv (j + 1) (fun j' _ => ri_lv hB j'))
        rw [if_neg (show ¬ 36 < nI j by rw [show (36 : Int32) = nI 36 from rfl, n_lt (by omega) (by omega)]; omega), if_pos (show 0 ≤ nI (wk (gN g) c0 j) by rw [show (0 : Int32) = nI 0 from rfl, n_le (by omega) (by omega)]; omega)]
        simp (disch := omega) only [nI_toInt, nI_clamp, p_ck, aR_1]
        rw [eR_lv he hw hvj (ri_lv hB j), show nxt (gN g) (wk (gN g) c0 j) = wk (gN g) c0 (j + 1) from rfl, if_neg (nI_nm1 (by omega))]
        exact ⟨_, _, rfl, Or.inl ⟨rfl, N - 1, by omega, rfl, j + 1, by omega, rfl⟩⟩)
    o_fuel 37 (nI c0, 0) m (fu (by omega)) ⟨rfl, 0, by omega, rfl⟩
  unfold fX12_echoFrom
  rw [q1, p_bd]
  rfl
theorem rf_B (he : ∀ c, c < 36 → eR g c (m.1 10 c)) (hw : wfV g) (hv : vC g c0) {b r : Nat} (hB : riB (gN g) c0 b r) : fX12_ringFrom rfM 0 (nI c0) m = some (nI r, m) := by
  have h36 : ∀ j, wk (gN g) c0 j < 36 := fun j => vC_36 hw (vC_wk hw hv j (fun j' _ => ri_lv hB j'))
  have hst : ∀ j, m.1 10 (wk (gN g) c0 j) = nI (wk (gN g) c0 (j + 1)) := fun j => eR_lv he hw (vC_wk hw hv j (fun j' _ => ri_lv hB j')) (ri_lv hB j)
  have hr0 := hB.1
  have hbr := hB.2.1
  obtain ⟨e1, m1, q1, rfl, rfl⟩ := lp_one (h := 4) (s := fX12_ringFrom_s4 rfM 0)
    (fun N τ μ => μ = m ∧ ∃ j, j + N = 36 ∧ τ = (nI (wk (gN g) c0 j), nI j))
    (fun e μ => m = μ ∧ e = (23, (nI (wk (gN g) c0 36), 0)))
    (fun N τ μ hR => by
      obtain ⟨rfl, j, hN, rfl⟩ := hR
      have h3 := h36 j
      unfold fX12_ringFrom_s4
      rw [qm_25, show (36 : Int32) = nI 36 from rfl]
      by_cases hj : j = 36
      · rw [if_pos ((n_le (by omega) (by omega)).mpr (by omega)), hj]
        exact ⟨_, _, rfl, Or.inr ⟨show ¬ 23 = 4 by decide, rfl, rfl⟩⟩
      · rw [if_neg (fun z => by rw [n_le (by omega) (by omega)] at z; omega)]
        simp (disch := omega) only [nI_toInt, nI_clamp, p_ck, aR_1, hst]
        exact ⟨_, _, rfl, Or.inl ⟨rfl, N - 1, by omega, rfl, j + 1, by omega, rfl⟩⟩)
    o_fuel 36 (nI c0, 0) m (fu (by omega)) ⟨rfl, 0, by omega, rfl⟩
  obtain ⟨per, nper⟩ := ri_per hB (i := 36) (by omega)
  obtain ⟨e2, m2, q2, rfl, rfl⟩ := lp_one (h := 33) (s := fX12_ringFrom_s33 rfM 0 (nI (wk (gN g) c0 36)))
    (fun N τ μ => μ = m ∧ ∃ k, k + N = r ∧ 1 ≤ k ∧ τ = (nI k, nI (wk (gN g) c0 (36 + k))))
    (fun e μ => m = μ ∧ e = (54, (nI r, 0)))
    (fun N τ μ hR => by
      obtain ⟨rfl, k, hN, hk, rfl⟩ := hR
      have h3 := h36 (36 + k)
      have h4 := h36 36
      unfold fX12_ringFrom_s33
      rw [qm_25]
      by_cases hkr : k = r
      · rw [hkr, if_pos (show nI (wk (gN g) c0 (36 + r)) = nI (wk (gN g) c0 36) by rw [per])]
        exact ⟨_, _, rfl, Or.inr ⟨show ¬ 54 = 33 by decide, rfl, rfl⟩⟩
      · rw [if_neg (show ¬ nI (wk (gN g) c0 (36 + k)) = nI (wk (gN g) c0 36) by rw [nI_inj (by omega) (by omega)]; exact nper k hk (by omega))]
        simp (disch := omega) only [nI_toInt, nI_clamp, p_ck, aR_1, hst]
        exact ⟨_, _, rfl, Or.inl ⟨rfl, N - 1, by omega, rfl, k + 1, by omega, by omega, rfl⟩⟩)
    o_fuel (r - 1) (1, nI (wk (gN g) c0 37)) m (fu (by omega)) ⟨rfl, 1, by omega, by omega, rfl⟩
  have h5 := h36 36
  unfold fX12_ringFrom
  rw [q1, p_bd, if_pos rfl, qm_25]
  simp (disch := omega) only [nI_toInt, nI_clamp, p_ck, hst]
  rw [q2, p_bd, if_pos rfl]
theorem cb_A (he : ∀ c, c < 36 → eR g c (m.1 10 c)) (hw : wfV g) (hv : vC g c0) {n : Nat} (hA : enA (gN g) c0 n) (hG : gN g (wk (gN g) c0 n) = none ∨ gN g (wk (gN g) c0 n) = some none) : fX12_comesBack rfM 0 (nI c0) m = some (0, m) := by
  obtain ⟨hn, hl, hd⟩ := hA
  have h0 := vC_36 hw hv
  have hvj : ∀ j, j ≤ n → vC g (wk (gN g) c0 j) := fun j hj => vC_wk hw hv j (fun j' hj' => hl j' (by omega))
  have hst : ∀ j, j < n → m.1 10 (wk (gN g) c0 j) = nI (wk (gN g) c0 (j + 1)) := fun j hj => eR_lv he hw (hvj j (by omega)) (hl j hj)
  have hen : (m.1 10 (wk (gN g) c0 n)) < 0 := by
    rcases he _ (vC_36 hw (hvj n (Nat.le_refl _))) with ⟨-, ⟨-, e⟩ | ⟨-, e⟩ | ⟨⟨d, e⟩, -⟩⟩ | ⟨-, e⟩
    · rw [e]; decide
    · rw [e]; decide
    · rcases hG with hG | hG
      · rw [hG] at e; cases e
      · rw [hG] at e; cases e
    · rw [e]; decide
  obtain ⟨e1, m1, q1, rfl, rfl⟩ := lp_one (h := 9) (s := fX12_comesBack_s9 rfM 0 (nI c0))
    (fun N τ μ => μ = m ∧ ∃ j, j + N = n ∧ τ = (m.1 10 (wk (gN g) c0 j), nI j))
    (fun e μ => m = μ ∧ e = (39, (0, 0)))
    (fun N τ μ hR => by
      obtain ⟨rfl, j, hN, rfl⟩ := hR
      unfold fX12_comesBack_s9
      rw [qm_25, if_neg (show ¬ 36 ≤ nI j by rw [show (36 : Int32) = nI 36 from rfl, n_le (by omega) (by omega)]; omega)]
      by_cases hj : j = n
      · rw [hj, if_pos hen]
        exact ⟨_, _, rfl, Or.inr ⟨show ¬ 39 = 9 by decide, rfl, rfl⟩⟩
      · have h3 := vC_36 hw (hvj (j + 1) (by omega))
        rw [hst j (by omega), if_neg (show ¬ nI (wk (gN g) c0 (j + 1)) < 0 by rw [show (0 : Int32) = nI 0 from rfl, n_lt (by omega) (by omega)]; omega), if_neg (show ¬ nI (wk (gN g) c0 (j + 1)) = nI c0 by rw [nI_inj (by omega) (by omega)]; exact fun z => by have := hd (j + 1) 0 (by omega) (by omega) z; omega)]
        simp (disch := omega) only [nI_toInt, nI_clamp, p_ck, aR_1]
        exact ⟨_, _, rfl, Or.inl ⟨rfl, N - 1, by omega, rfl, j + 1, by omega, rfl⟩⟩)
    o_fuel n (m.1 10 c0, 0) m (fu (by omega)) ⟨rfl, 0, by omega, rfl⟩
  unfold fX12_comesBack
  rw [qm_25]
  simp (disch := omega) only [nI_toInt, nI_clamp, p_ck]
  rw [q1, p_bd]
  rfl
theorem cb_B (he : ∀ c, c < 36 → eR g c (m.1 10 c)) (hw : wfV g) (hv : vC g c0) {b r : Nat} (hB : riB (gN g) c0 b r) : fX12_comesBack rfM 0 (nI c0) m = some (if b = 0 then 1 else 0, m) := by
  have h0 := vC_36 hw hv
  have h36 : ∀ j, wk (gN g) c0 j < 36 := fun j => vC_36 hw (vC_wk hw hv j (fun j' _ => ri_lv hB j'))
  have hst : ∀ j, m.1 10 (wk (gN g) c0 j) = nI (wk (gN g) c0 (j + 1)) := fun j => eR_lv he hw (vC_wk hw hv j (fun j' _ => ri_lv hB j')) (ri_lv hB j)
  have hr0 := hB.1
  have hbr := hB.2.1
  unfold fX12_comesBack
  rw [qm_25]
  simp (disch := omega) only [nI_toInt, nI_clamp, p_ck]
  have hs0 : m.1 10 c0 = nI (wk (gN g) c0 1) := hst 0
  rw [hs0]
  by_cases hb : b = 0
  · obtain ⟨per, nper⟩ := ri_per hB (i := 0) (by omega)
    obtain ⟨e1, m1, q1, rfl, rfl⟩ := lp_one (h := 9) (s := fX12_comesBack_s9 rfM 0 (nI c0))
      (fun N τ μ => μ = m ∧ ∃ j, j + N = r ∧ j < r ∧ τ = (nI (wk (gN g) c0 (j + 1)), nI j))
      (fun e μ => m = μ ∧ e = (24, (0, 0)))
      (fun N τ μ hR => by
        obtain ⟨rfl, j, hN, hj, rfl⟩ := hR
        have h3 := h36 (j + 1)
        unfold fX12_comesBack_s9
        rw [qm_25, if_neg (show ¬ 36 ≤ nI j by rw [show (36 : Int32) = nI 36 from rfl, n_le (by omega) (by omega)]; omega), if_neg (show ¬ nI (wk (gN g) c0 (j + 1)) < 0 by rw [show (0 : Int32) = nI 0 from rfl, n_lt (by omega) (by omega)]; omega)]
        by_cases hjr : j + 1 = r
        · rw [if_pos (show nI (wk (gN g) c0 (j + 1)) = nI c0 by rw [hjr, ← Nat.zero_add r, per]; rfl)]
          exact ⟨_, _, rfl, Or.inr ⟨show ¬ 24 = 9 by decide, rfl, rfl⟩⟩
        · have hx := nper (j + 1) (by omega) (by omega)
          rw [Nat.zero_add] at hx
          rw [if_neg (show ¬ nI (wk (gN g) c0 (j + 1)) = nI c0 by rw [nI_inj (by omega) (by omega)]; exact hx)]
          simp (disch := omega) only [nI_toInt, nI_clamp, p_ck, aR_1, hst]
          exact ⟨_, _, rfl, Or.inl ⟨rfl, N - 1, by omega, rfl, j + 1, by omega, by omega, rfl⟩⟩)
      o_fuel r (nI (wk (gN g) c0 1), 0) m (fu (by omega)) ⟨rfl, 0, by omega, by omega, rfl⟩
    rw [q1, p_bd, if_pos hb]
    rfl
  · have hne : ∀ i, 1 ≤ i → ¬ wk (gN g) c0 i = c0 := fun i hi he => by
      obtain ⟨j, j1, j2, j3, j4⟩ := ri_in hB i
      have hj0 : j ≠ 0 := by
        by_cases hib : b ≤ i
        · have := j2 hib; omega
        · have := j3 (by omega); omega
      exact hj0 (hB.2.2.2.1 j 0 j1 (by omega) (j4.symm.trans he))
    obtain ⟨e1, m1, q1, rfl, rfl⟩ := lp_one (h := 9) (s := fX12_comesBack_s9 rfM 0 (nI c0))
      (fun N τ μ => μ = m ∧ ∃ j, j + N = 36 ∧ τ = (nI (wk (gN g) c0 (j + 1)), nI j))
      (fun e μ => m = μ ∧ e = (39, (0, 0)))
      (fun N τ μ hR => by
        obtain ⟨rfl, j, hN, rfl⟩ := hR
        have h3 := h36 (j + 1)
        unfold fX12_comesBack_s9
        rw [qm_25]
        by_cases hj : j = 36
        · rw [if_pos (show 36 ≤ nI j by rw [show (36 : Int32) = nI 36 from rfl, n_le (by omega) (by omega)]; omega)]
          exact ⟨_, _, rfl, Or.inr ⟨show ¬ 39 = 9 by decide, rfl, rfl⟩⟩
        · rw [if_neg (show ¬ 36 ≤ nI j by rw [show (36 : Int32) = nI 36 from rfl, n_le (by omega) (by omega)]; omega), if_neg (show ¬ nI (wk (gN g) c0 (j + 1)) < 0 by rw [show (0 : Int32) = nI 0 from rfl, n_lt (by omega) (by omega)]; omega), if_neg (show ¬ nI (wk (gN g) c0 (j + 1)) = nI c0 by rw [nI_inj (by omega) (by omega)]; exact hne (j + 1) (by omega))]
          simp (disch := omega) only [nI_toInt, nI_clamp, p_ck, aR_1, hst]
          exact ⟨_, _, rfl, Or.inl ⟨rfl, N - 1, by omega, rfl, j + 1, by omega, rfl⟩⟩)
      o_fuel 36 (nI (wk (gN g) c0 1), 0) m (fu (by omega)) ⟨rfl, 0, by omega, rfl⟩
    rw [q1, p_bd, if_neg hb]
    rfl
end em
