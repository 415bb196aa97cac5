/-! ===== the reference's ways ===== -/
section vm
variable {μC μM : o_Mem} {g : Nat → Nat → Int32}
theorem e12_hand {m : o_Mem} (hw : wfV g) (hr : vR g (m.1 1)) {u : Nat} (hu : u < cP g) : fX12_handOf rfM 0 (nI u) m = some (g 3 u, m) := by
  have bP := hw.1.2.2.1.2
  unfold fX12_handOf
  rw [qm_0]
  simp (disch := omega) only [aL_25, nI_toInt, nI_clamp, p_ck]
  rw [hr.2.2.1 u hu]
theorem st_yes {m : o_Mem} (hw : wfV g) (hr : vR g (m.1 1)) {u v : Nat} (hu : u < cP g) (hv : v < cP g) {w : Int32} (h : eW g w u v) : fX12_isStruck rfM 0 (nI u) (nI v) w m = some (1, m) := by
  have bP := hw.1.2.2.1.2
  unfold fX12_isStruck
  rw [if_neg (show ¬ nI u = nI v by rw [nI_inj (by omega) (by omega)]; exact h.1), e12_hand hw hr hu, p_bd, e12_sober _ _ _ _ hw.1 hr, p_bd, if_neg h.2]
theorem st_no {m : o_Mem} (hw : wfV g) (hr : vR g (m.1 1)) {u v : Nat} (hu : u < cP g) (hv : v < cP g) {w : Int32} (h : ¬ eW g w u v) : fX12_isStruck rfM 0 (nI u) (nI v) w m = some (0, m) := by
  have bP := hw.1.2.2.1.2
  unfold fX12_isStruck
  by_cases e : u = v
  · rw [if_pos (show nI u = nI v by rw [e])]
  · rw [if_neg (show ¬ nI u = nI v by rw [nI_inj (by omega) (by omega)]; exact e), e12_hand hw hr hu, p_bd, e12_sober _ _ _ _ hw.1 hr, p_bd, if_pos (Classical.byContradiction fun z => h ⟨e, z⟩)]
theorem e12_ways {m : o_Mem} (hw : wfV g) (hr : vR g (m.1 1)) {t : Nat} (ht : t < cP g) (w s : Int32) : ∃ m', fX12_laysVia rfM 0 (nI t) w s m = some ((), m') ∧ (∀ i, i ≠ 9 → m'.1 i = m.1 i) ∧ m'.2 = m.2 ∧ ∀ p, p < cP g → wM (cP g) (eW g w) (bW g t w s) 7 p (m'.1 9 p) := by
  have bP := hw.1.2.2.1.2
  have eP : ∀ μ : o_Mem, (∀ i, i ≠ 9 → μ.1 i = m.1 i) → μ.1 1 2 = nI (cP g) := fun μ h => by rw [h 1 (by omega)]; exact hr.1.2.2.1.trans hw.1.2.2.1.1
  have cr : ∀ μ : o_Mem, (∀ i, i ≠ 9 → μ.1 i = m.1 i) → vR g (μ.1 1) := fun μ h => by rw [h 1 (by omega)]; exact hr
  obtain ⟨N, hN⟩ : ∃ N, cP g = N := ⟨_, rfl⟩
  unfold fX12_laysVia
  -- at once
  obtain ⟨e1, m1, q1, rfl, F1, F2, F3⟩ := lp_one (h := 3) (s := fX12_laysVia_s3 rfM 0 (nI t) w s)
    (fun i τ μ => ∃ k, k + i = cP g ∧ τ = nI k ∧ (∀ i, i ≠ 9 → μ.1 i = m.1 i) ∧ μ.2 = m.2 ∧ ∀ p, p < k → wM (cP g) (eW g w) (bW g t w s) 1 p (μ.1 9 p))
    (fun e μ => e = (58, 0) ∧ (∀ i, i ≠ 9 → μ.1 i = m.1 i) ∧ μ.2 = m.2 ∧ ∀ p, p < cP g → wM (cP g) (eW g w) (bW g t w s) 1 p (μ.1 9 p))
    (fun i τ μ hR => by
      obtain ⟨k, hk, rfl, h1, h2, h3⟩ := hR
      unfold fX12_laysVia_s3 fX12_laysVia_j48 fX12_laysVia_j51
      rw [qm_0, qm_24, eP μ h1]
      by_cases hi : i = 0
      · rw [if_pos ((n_le (by omega) (by omega)).mpr (by omega))]
        exact ⟨_, _, rfl, Or.inr ⟨show ¬ 58 = 3 by decide, rfl, h1, h2, fun p hp => h3 p (by omega)⟩⟩
      · rw [if_neg (fun z => by rw [n_le (by omega) (by omega)] at z; omega)]
        simp (disch := omega) only [nI_toInt, nI_clamp, p_ck, p_seq, aR_1]
        have fin : ∀ x : Int32, wM (cP g) (eW g w) (bW g t w s) 1 k x → ∃ e l, some ((3, nI (k + 1)), o_wI μ 9 k x) = some (e, l) ∧ (e.1 = 3 ∧ (∃ j, j < i ∧ ∃ k, k + j = cP g ∧ e.2 = nI k ∧ (∀ i, i ≠ 9 → l.1 i = m.1 i) ∧ l.2 = m.2 ∧ ∀ p, p < k → wM (cP g) (eW g w) (bW g t w s) 1 p (l.1 9 p))) := fun x hx =>
          ⟨_, _, rfl, rfl, i - 1, by omega, k + 1, by omega, rfl, fun i hi => by rw [p_wI_o hi]; exact h1 i hi, h2, fun p hp => by
            rw [p_wI1]
            by_cases hpk : p = k
            · rw [if_pos ⟨rfl, hpk⟩, hpk]; exact hx
            · rw [if_neg (fun z => hpk z.2)]; exact h3 p (by omega)⟩
        have far : ¬ bW g t w s k → wM (cP g) (eW g w) (bW g t w s) 1 k 1000000 := fun hb => ⟨Or.inl rfl, fun e he hwk => by
          rcases (show e = 0 ∨ e = 1 by omega) with rfl | rfl
          · exact absurd hwk id
          · exact absurd hwk hb⟩
        have nr : bW g t w s k → wM (cP g) (eW g w) (bW g t w s) 1 k 1 := fun hb => ⟨Or.inr ⟨1, by omega, hb, rfl⟩, fun e he hwk => by
          rcases (show e = 0 ∨ e = 1 by omega) with rfl | rfl
          · exact absurd hwk id
          · exact Int.le_refl _⟩
        by_cases hkt : k = t
        · rw [if_pos (show nI k = nI t by rw [hkt])]
          obtain ⟨e, l, a, b⟩ := fin _ (far (fun z => z.1 hkt))
          exact ⟨e, l, a, Or.inl b⟩
        · rw [if_neg (show ¬ nI k = nI t by rw [nI_inj (by omega) (by omega)]; exact hkt), e12_hand hw (cr μ h1) (by omega), p_bd, e12_sober _ _ _ _ hw.1 (cr μ h1), p_bd]
          by_cases hs : sob g (nI k) (nI t) w (g 3 k) = s
          · rw [if_pos hs]
            obtain ⟨e, l, a, b⟩ := fin _ (nr ⟨hkt, hs⟩)
            exact ⟨e, l, a, Or.inl b⟩
          · rw [if_neg hs]
            obtain ⟨e, l, a, b⟩ := fin _ (far (fun z => hs z.2))
            exact ⟨e, l, a, Or.inl b⟩)
    o_fuel (cP g) 0 m (fu (by omega)) ⟨0, by omega, rfl, fun i _ => rfl, rfl, fun p hp => by omega⟩
  rw [q1, p_bd, if_pos rfl]
  -- by way of others
  obtain ⟨e2, m2, q2, rfl, G1, G2, G3⟩ := lp_one (h := 61) (s := fX12_laysVia_s61 rfM 0 w)
    (fun i τ μ => ∃ r, r + i = 6 ∧ τ = nI r ∧ (∀ i, i ≠ 9 → μ.1 i = m.1 i) ∧ μ.2 = m.2 ∧ ∀ p, p < cP g → wM (cP g) (eW g w) (bW g t w s) (r + 1) p (μ.1 9 p))
    (fun e μ => e = (152, 0) ∧ (∀ i, i ≠ 9 → μ.1 i = m.1 i) ∧ μ.2 = m.2 ∧ ∀ p, p < cP g → wM (cP g) (eW g w) (bW g t w s) 7 p (μ.1 9 p))
    (fun i τ μ hR => by
      obtain ⟨r, hr6, rfl, h1, h2, h3⟩ := hR
      unfold fX12_laysVia_s61
      rw [show (6 : Int32) = nI 6 from rfl]
      by_cases hi : i = 0
      · rw [if_pos ((n_le (by omega) (by omega)).mpr (by omega))]
        refine ⟨_, _, rfl, Or.inr ⟨show ¬ 152 = 61 by decide, rfl, h1, h2, fun p hp => ?_⟩⟩
        have := h3 p hp
        rw [show r + 1 = 7 by omega] at this
        exact this
      · rw [if_neg (fun z => by rw [n_le (by omega) (by omega)] at z; omega)]
        obtain ⟨e3, m3, q3, rfl, H1, H2, H3⟩ := lp_one (h := 71) (s := fX12_laysVia_s71 rfM 0 w (nI r))
          (fun i τ μ => ∃ k, k + i = cP g ∧ τ = nI k ∧ (∀ i, i ≠ 9 → μ.1 i = m.1 i) ∧ μ.2 = m.2 ∧ ∀ p, p < cP g → wM (cP g) (eW g w) (bW g t w s) (if p < k then r + 2 else r + 1) p (μ.1 9 p))
          (fun e μ => e = (146, 0) ∧ (∀ i, i ≠ 9 → μ.1 i = m.1 i) ∧ μ.2 = m.2 ∧ ∀ p, p < cP g → wM (cP g) (eW g w) (bW g t w s) (r + 2) p (μ.1 9 p))
          (fun i τ μ hR => by
            obtain ⟨k, hk, rfl, h1, h2, h3⟩ := hR
            unfold fX12_laysVia_s71
            rw [qm_0, eP μ h1]
            by_cases hi : i = 0
            · rw [if_pos ((n_le (by omega) (by omega)).mpr (by omega))]
              refine ⟨_, _, rfl, Or.inr ⟨show ¬ 146 = 71 by decide, rfl, h1, h2, fun p hp => ?_⟩⟩
              have := h3 p hp
              rw [if_pos (by omega)] at this
              exact this
            · rw [if_neg (fun z => by rw [n_le (by omega) (by omega)] at z; omega)]
              obtain ⟨e4, m4, q4, rfl, K1, K2, K3, K4, K5⟩ := lp_one (h := 85) (s := fX12_laysVia_s85 rfM 0 w (nI r) (nI k))
                (fun i τ l => ∃ j, j + i = cP g ∧ τ = nI j ∧ (∀ i, i ≠ 9 → l.1 i = m.1 i) ∧ l.2 = m.2 ∧ (∀ p, ¬ p = k → l.1 9 p = μ.1 9 p) ∧ wM (cP g) (eW g w) (bW g t w s) (r + 1) k (l.1 9 k) ∧ ∀ q, q < j → eW g w k q → (l.1 9 k).toInt ≤ (μ.1 9 q).toInt + 1)
                (fun e l => e = (140, 0) ∧ (∀ i, i ≠ 9 → l.1 i = m.1 i) ∧ l.2 = m.2 ∧ (∀ p, ¬ p = k → l.1 9 p = μ.1 9 p) ∧ wM (cP g) (eW g w) (bW g t w s) (r + 1) k (l.1 9 k) ∧ ∀ q, q < cP g → eW g w k q → (l.1 9 k).toInt ≤ (μ.1 9 q).toInt + 1)
                (fun i τ l hR => by
                  obtain ⟨j, hj, rfl, a1, a2, a3, a4, a5⟩ := hR
                  unfold fX12_laysVia_s85
                  rw [qm_0, qm_24, eP l a1]
                  by_cases hi : i = 0
                  · rw [if_pos ((n_le (by omega) (by omega)).mpr (by omega))]
                    exact ⟨_, _, rfl, Or.inr ⟨show ¬ 140 = 85 by decide, rfl, a1, a2, a3, a4, fun q hq => a5 q (by omega)⟩⟩
                  · rw [if_neg (fun z => by rw [n_le (by omega) (by omega)] at z; omega)]
                    by_cases hE : eW g w k j
                    · rw [st_yes hw (cr l a1) (by omega) (by omega) hE, p_bd, if_neg (by decide)]
                      simp (disch := omega) only [nI_toInt, nI_clamp, p_ck, p_seq, aR_1]
                      have hjk : ¬ j = k := fun z => hE.1 z.symm
                      rw [a3 j hjk]
                      have wj := h3 j (by omega)
                      generalize hy : μ.1 9 j = y at wj ⊢
                      generalize hx : l.1 9 k = x at a4 a5 ⊢
                      have by1 : 0 ≤ y.toInt ∧ y.toInt ≤ 1000000 := by
                        rcases wj.1 with rfl | ⟨e, b1, -, rfl⟩
                        · decide
                        · rw [nI_toInt (by omega)]; omega
                      have bx1 : 0 ≤ x.toInt ∧ x.toInt ≤ 1000000 := by
                        rcases a4.1 with rfl | ⟨e, b1, -, rfl⟩
                        · decide
                        · rw [nI_toInt (by omega)]; omega
                      have ey : (y + 1).toInt = y.toInt + 1 := by
                        rw [Int32.toInt_add, c32_1]
                        exact Int.bmod_eq_of_le (by omega) (by omega)
                      have hmin : ∃ z, (if x > y + 1 then y + 1 else x) = z ∧ z.toInt ≤ x.toInt ∧ z.toInt ≤ y.toInt + 1 ∧ (z = x ∨ (z = y + 1 ∧ y.toInt + 1 < x.toInt)) := by
                        by_cases hg : x > y + 1
                        · rw [if_pos hg]
                          have := (i32_lt (y + 1) x).mp hg
                          exact ⟨_, rfl, by omega, by omega, Or.inr ⟨rfl, by omega⟩⟩
                        · rw [if_neg hg]
                          have : ¬ (y + 1).toInt < x.toInt := fun z => hg ((i32_lt (y + 1) x).mpr z)
                          exact ⟨_, rfl, by omega, by omega, Or.inl rfl⟩
                      obtain ⟨z, hz, z1, z2, z3⟩ := hmin
                      rw [hz]
                      refine ⟨_, _, rfl, Or.inl ⟨rfl, i - 1, by omega, j + 1, by omega, rfl, fun i hi => by rw [p_wI_o hi]; exact a1 i hi, a2, fun p hp => by rw [p_wI1, if_neg (fun z => hp z.2)]; exact a3 p hp, ?_, fun q hq hEq => ?_⟩⟩
                      · rw [p_wI1, if_pos ⟨rfl, rfl⟩]
                        refine ⟨?_, fun e he hwk => by have := a4.2 e he hwk; omega⟩
                        rcases z3 with rfl | ⟨rfl, z3⟩
                        · exact a4.1
                        · rcases wj.1 with rfl | ⟨e, b1, b2, rfl⟩
                          · exact absurd z3 (by rw [show (1000000 : Int32).toInt = 1000000 from rfl]; omega)
                          · rw [nI_toInt (by omega)] at z3
                            exact Or.inr ⟨e + 1, by omega, wlk_up b2 (by omega) hE, aR_1 e⟩
                      · rw [p_wI1, if_pos ⟨rfl, rfl⟩]
                        by_cases hqj : q = j
                        · rw [hqj, hy]; omega
                        · have := a5 q (by omega) hEq
                          omega
                    · rw [st_no hw (cr l a1) (by omega) (by omega) hE, p_bd, if_pos rfl, aR_1]
                      refine ⟨_, _, rfl, Or.inl ⟨rfl, i - 1, by omega, j + 1, by omega, rfl, a1, a2, a3, a4, fun q hq hEq => ?_⟩⟩
                      by_cases hqj : q = j
                      · rw [hqj] at hEq; exact absurd hEq hE
                      · exact a5 q (by omega) hEq)
                o_fuel (cP g) 0 μ (fu (by omega)) ⟨0, by omega, rfl, h1, h2, fun p _ => rfl, by
                  have := h3 k (by omega)
                  rw [if_neg (by omega)] at this
                  exact this, fun q hq => by omega⟩
              rw [q4, p_bd, if_pos rfl, aR_1]
              refine ⟨_, _, rfl, Or.inl ⟨rfl, i - 1, by omega, k + 1, by omega, rfl, K1, K2, fun p hp => ?_⟩⟩
              by_cases hpk : p = k
              · rw [hpk, if_pos (by omega)]
                refine ⟨K4.1, fun e he hwk => ?_⟩
                by_cases her : e ≤ r + 1
                · exact K4.2 e her hwk
                · obtain ⟨c, rfl⟩ : ∃ c, e = c + 2 := ⟨e - 2, by omega⟩
                  obtain ⟨q, b1, b2, b3⟩ := hwk
                  have c1 := K5 q b1 b2
                  have c2 := (h3 q b1).2 (c + 1) (by split <;> omega) b3
                  omega
              · rw [K3 p hpk]
                have := h3 p hp
                by_cases hlt : p < k
                · rw [if_pos hlt] at this; rw [if_pos (by omega)]; exact this
                · rw [if_neg hlt] at this; rw [if_neg (by omega)]; exact this)
          o_fuel (cP g) 0 μ (fu (by omega)) ⟨0, by omega, rfl, h1, h2, fun p hp => by rw [if_neg (by omega)]; exact h3 p hp⟩
        rw [q3, p_bd, if_pos rfl, aR_1]
        exact ⟨_, _, rfl, Or.inl ⟨rfl, i - 1, by omega, r + 1, by omega, rfl, H1, H2, H3⟩⟩)
    o_fuel 6 0 m1 (fu (by omega)) ⟨0, by omega, rfl, F1, F2, F3⟩
  rw [q2, p_bd, if_pos rfl]
  exact ⟨_, rfl, G1, G2, G3⟩
abbrev wayP (g : Nat → Nat → Int32) (p t w s : Int32) : Prop := rg p (cP g) ∧ rg t (cP g) ∧ ¬ p = t ∧ (1 ≤ w.toInt ∧ w.toInt ≤ 99) ∧ rg s (cS g)
theorem e11_isWay (hw : wfN (bV μC 10)) (p t w s : Int32) : fX11_isWay rfC 0 p t w s μC = some (bI (wayP (bV μC 10) p t w s), μC) := by
  unfold fX11_isWay wayP
  simp only [rc0_4, e8_isPerson rfC hw, e8_isStrike rfC hw, e11_within, p_bd, bI_if, i64_of, c64_1, c64_99]
  by_cases h1 : rg p (cP (bV μC 10))
  · rw [if_pos h1]
    by_cases h2 : rg t (cP (bV μC 10))
    · rw [if_pos h2]
      by_cases h3 : p = t
      · rw [if_pos h3, bI_f (fun z => z.2.2.1 h3)]
      · rw [if_neg h3]
        by_cases h4 : 1 ≤ w.toInt ∧ w.toInt ≤ 99
        · rw [if_pos h4]
          by_cases h5 : rg s (cS (bV μC 10))
          · rw [if_pos h5, bI_t ⟨h1, h2, h3, h4, h5⟩]
          · rw [if_neg h5, bI_f (fun z => h5 z.2.2.2.2)]
        · rw [if_neg h4, bI_f (fun z => h4 z.2.2.2.1)]
    · rw [if_neg h2, bI_f (fun z => h2 z.2.1)]
  · rw [if_neg h1, bI_f (fun z => h1 z.1)]
theorem e12_isWay {m : o_Mem} (hw : wfN g) (hr : vR g (m.1 1)) (p t w s : Int32) : fX12_isWay rfM 0 p t w s m = some (bI (wayP g p t w s), m) := by
  unfold fX12_isWay wayP
  simp only [e12_areTwo hw hr, e12_isStrike hw hr, e12_isWeight, p_bd, bI_if]
  by_cases h1 : rg p (cP g) ∧ rg t (cP g) ∧ ¬ p = t
  · rw [if_pos h1]
    by_cases h4 : 1 ≤ w.toInt ∧ w.toInt ≤ 99
    · rw [if_pos h4]
      by_cases h5 : rg s (cS g)
      · rw [if_pos h5, bI_t ⟨h1.1, h1.2.1, h1.2.2, h4, h5⟩]
      · rw [if_neg h5, bI_f (fun z => h5 z.2.2.2.2)]
    · rw [if_neg h4, bI_f (fun z => h4 z.2.2.2.1)]
  · rw [if_neg h1, bI_f (fun z => h1 ⟨z.1, z.2.1, z.2.2.1⟩)]
theorem pu_via (h : Inv μC μM) (p t w s : Int32) : o_Eq2 (fX11_via rfC 0 p t w s μC) (fX12_via rfM 0 p t w s μM) Inv := by
  obtain ⟨hw, hr⟩ := Inv_v h
  have bP := hw.1.2.2.1.2
  unfold fX11_via fX12_via
  simp only [rc0_4, rc0_16, rc145_0, qm_24, e11_isWay hw.1, e12_isWay hw.1 hr, p_bd, bI_if, e11_refuses, e12_refuse, e12_gives, e11_any]
  by_cases hx : wayP (bV μC 10) p t w s
  · rw [if_pos hx, if_pos hx]
    obtain ⟨p, hp, hp2, rfl⟩ := rg_nI hx.1
    obtain ⟨t, ht, ht2, rfl⟩ := rg_nI hx.2.1
    obtain ⟨m1, q1, F1, F2, F3⟩ := e6_ways hw.1 ht w s
    obtain ⟨m2, q2, G1, G2, G3⟩ := e12_ways hw hr ht w s
    have hI : Inv m1 m2 := Inv_scr h (fun i hi => F1 i (by omega)) (fun i hi => by rw [F2]) (fun k hk => by rw [G1 0 (by omega)]) (fun i h1 h2 => G1 i (by omega)) (fun i hi => by rw [G2])
    rw [q1, q2, p_bd, p_bd]
    simp (disch := omega) only [nI_toInt, nI_clamp, p_ck]
    rcases w_end bP hp (F3 p hp) (G3 p hp) with ⟨d, d1, d2, d3, d4⟩ | ⟨d3, d4⟩
    · rw [d3, d4, if_neg (nI_nm1 (by omega)), if_pos (show nI d < 1000000 by rw [show (1000000 : Int32) = nI 1000000 from rfl, n_lt (by omega) (by omega)]; omega), p_bd]
      exact eq2_st hI _ _ rfl rfl
    · rw [d3, d4, if_pos rfl, if_neg (by decide), p_bd]
      exact eq2_st hI _ _ rfl rfl
  · rw [if_neg hx, if_neg hx]; exact eq2_st h _ _ rfl rfl
theorem pu_viaFirst (h : Inv μC μM) (p t w s : Int32) : o_Eq2 (fX11_viaFirst rfC 0 p t w s μC) (fX12_viaFirst rfM 0 p t w s μM) Inv := by
  obtain ⟨hw, hr⟩ := Inv_v h
  have bP := hw.1.2.2.1.2
  unfold fX11_viaFirst fX12_viaFirst fX6_firstOnWay fX12_viaFirst_j110
  simp only [rc0_4, rc0_16, rc145_0, qm_24, e11_isWay hw.1, e12_isWay hw.1 hr, p_bd, bI_if, e11_refuses, e12_refuse, e12_gives, e11_any]
  by_cases hx : wayP (bV μC 10) p t w s
  · rw [if_pos hx, if_pos hx]
    obtain ⟨p, hp, hp2, rfl⟩ := rg_nI hx.1
    obtain ⟨t, ht, ht2, rfl⟩ := rg_nI hx.2.1
    obtain ⟨m1, q1, F1, F2, F3⟩ := e6_ways hw.1 ht w s
    obtain ⟨m2, q2, G1, G2, G3⟩ := e12_ways hw hr ht w s
    have hI : Inv m1 m2 := Inv_scr h (fun i hi => F1 i (by omega)) (fun i hi => by rw [F2]) (fun k hk => by rw [G1 0 (by omega)]) (fun i h1 h2 => G1 i (by omega)) (fun i hi => by rw [G2])
    have hr2 : vR (bV μC 10) (m2.1 1) := by rw [G1 1 (by omega)]; exact hr
    have eP2 : m2.1 1 2 = nI (cP (bV μC 10)) := hr2.1.2.2.1.trans hw.1.2.2.1.1
    have hw1 : wfN (bV m1 10) := (Inv_v hI).1.1
    have cP1 : cP (bV m1 10) = cP (bV μC 10) := by unfold cP; rw [bV_c F1 0 (by omega)]
    have ce : ∀ p q, eW (bV m1 10) w p q = eW (bV μC 10) w p q := fun p q => by
      unfold eW
      rw [sob_c (bV_c F1), bV_c F1 3 (by omega)]
    rw [q1, q2, p_bd, p_bd]
    simp (disch := omega) only [nI_toInt, nI_clamp, p_ck]
    rcases w_end bP hp (F3 p hp) (G3 p hp) with ⟨d, d1, d2, d3, d4⟩ | ⟨d3, d4⟩
    · rw [d3, d4, if_neg (nI_nm1 (by omega))]
      by_cases hd : d = 1
      · rw [if_pos (show nI d = 1 by rw [hd]; rfl), if_pos (show nI d = 1 by rw [hd]; rfl), p_bd, if_neg (nI_nm1 (by omega)), p_bd]
        exact eq2_st hI _ _ rfl rfl
      · rw [if_neg (show ¬ nI d = 1 by rw [show (1 : Int32) = nI 1 from rfl, nI_inj (by omega) (by omega)]; exact hd), if_neg (show ¬ nI d = 1 by rw [show (1 : Int32) = nI 1 from rfl, nI_inj (by omega) (by omega)]; exact hd)]
        have hd1 : nI d - 1 = nI (d - 1) := nI_sub2 (b := 1) (by omega)
        have same : ∀ q, q < cP (bV μC 10) → (m1.1 146 q = nI d - 1 ↔ m2.1 9 q = nI d - 1) := fun q hq => by
          rcases w_end bP hq (F3 q hq) (G3 q hq) with ⟨e, -, -, e3, e4⟩ | ⟨e3, e4⟩
          · rw [e3, e4]
          · rw [e3, e4, hd1]
            refine ⟨fun z => absurd z.symm (nI_nm1 (by omega)), fun z => ?_⟩
            rw [show (1000000 : Int32) = nI 1000000 from rfl, nI_inj (by omega) (by omega)] at z
            omega
        obtain ⟨r, r1, r2⟩ := e6_next hw1 (p := p) (by omega) w (nI d)
        rw [cP1] at r2
        simp only [ce] at r2
        rw [r1, p_bd, p_bd]
        obtain ⟨e2, n2, z1, rfl, z2⟩ := lp_one (h := 45) (s := fX12_viaFirst_s45 rfM 0 (nI p) w)
          (fun i τ μ => μ = m2 ∧ ∃ k, k + i = cP (bV μC 10) ∧ τ = nI k ∧ ∀ q, q < k → ¬ (m2.1 9 q = nI d - 1 ∧ eW (bV μC 10) w p q))
          (fun e μ => m2 = μ ∧ ((e = (110, 0) ∧ ∀ q, q < cP (bV μC 10) → ¬ (m2.1 9 q = nI d - 1 ∧ eW (bV μC 10) w p q)) ∨ ∃ q, q < cP (bV μC 10) ∧ e = (97, nI q) ∧ (m2.1 9 q = nI d - 1 ∧ eW (bV μC 10) w p q) ∧ ∀ q', q' < q → ¬ (m2.1 9 q' = nI d - 1 ∧ eW (bV μC 10) w p q')))
          (fun i τ μ hR => by
            obtain ⟨rfl, k, hk, rfl, hq⟩ := hR
            unfold fX12_viaFirst_s45
            rw [qm_0, qm_24, eP2]
            by_cases hi : i = 0
            · rw [if_pos ((n_le (by omega) (by omega)).mpr (by omega))]
              exact ⟨_, _, rfl, Or.inr ⟨show ¬ 110 = 45 by decide, rfl, Or.inl ⟨rfl, fun q h => hq q (by omega)⟩⟩⟩
            · rw [if_neg (fun z => by rw [n_le (by omega) (by omega)] at z; omega)]
              simp (disch := omega) only [nI_toInt, nI_clamp, p_ck, d4]
              rw [if_neg (show ¬ 1000000 ≤ nI d by rw [show (1000000 : Int32) = nI 1000000 from rfl, n_le (by omega) (by omega)]; omega)]
              by_cases hE : eW (bV μC 10) w p k
              · rw [st_yes hw hr2 hp (by omega) hE, p_bd, if_neg (by decide)]
                by_cases hD : μ.1 9 k = nI d - 1
                · rw [d4, if_pos hD]
                  exact ⟨_, _, rfl, Or.inr ⟨show ¬ 97 = 45 by decide, rfl, Or.inr ⟨k, by omega, rfl, ⟨hD, hE⟩, hq⟩⟩⟩
                · rw [d4, if_neg hD, aR_1]
                  refine ⟨_, _, rfl, Or.inl ⟨rfl, i - 1, by omega, rfl, k + 1, by omega, rfl, fun q h => ?_⟩⟩
                  by_cases hqk : q = k
                  · rw [hqk]; exact fun z => hD z.1
                  · exact hq q (by omega)
              · rw [st_no hw hr2 hp (by omega) hE, p_bd, if_pos rfl, aR_1]
                refine ⟨_, _, rfl, Or.inl ⟨rfl, i - 1, by omega, rfl, k + 1, by omega, rfl, fun q h => ?_⟩⟩
                by_cases hqk : q = k
                · rw [hqk]; exact fun z => hE z.2
                · exact hq q (by omega))
          o_fuel (cP (bV μC 10)) 0 m2 (fu (by omega)) ⟨rfl, 0, by omega, rfl, fun q h => by omega⟩
        rw [z1, p_bd]
        rcases r2 with ⟨rfl, r2⟩ | ⟨q, a1, rfl, a2, a3⟩
        · rcases z2 with ⟨rfl, z2⟩ | ⟨q', b1, rfl, b2, b3⟩
          · rw [if_pos rfl, if_neg (show ¬ 110 = 97 by decide), if_pos rfl, p_bd]
            exact eq2_st hI _ _ rfl rfl
          · exact absurd ⟨(same q' b1).mpr b2.1, b2.2⟩ (r2 q' b1)
        · rcases z2 with ⟨rfl, z2⟩ | ⟨q', b1, rfl, b2, b3⟩
          · exact absurd ⟨(same q a1).mp a2.1, a2.2⟩ (z2 q a1)
          · have hqq : q = q' := by
              rcases Nat.lt_trichotomy q q' with hl | hl | hl
              · exact absurd ⟨(same q a1).mp a2.1, a2.2⟩ (b3 q hl)
              · exact hl
              · exact absurd ⟨(same q' b1).mpr b2.1, b2.2⟩ (a3 q' hl)
            rw [if_neg (nI_nm1 (by omega)), if_pos rfl, p_bd, hqq]
            exact eq2_st hI _ _ rfl rfl
    · rw [d3, d4, if_pos rfl, if_neg (by decide), p_bd, if_pos rfl]
      have z1 : o_lp 45 (fX12_viaFirst_s45 rfM 0 (nI p) w) o_fuel 0 m2 = some ((110, 0), m2) := p_lp (n := 1) (p_lp_exit (by
        unfold fX12_viaFirst_s45
        rw [qm_0, qm_24, eP2, if_neg (show ¬ nI (cP (bV μC 10)) ≤ 0 by rw [show (0 : Int32) = nI 0 from rfl, n_le (by omega) (by omega)]; omega)]
        simp (disch := omega) only [nI_toInt, nI_clamp, p_ck, d4]
        rfl) (by decide)) (by omega)
      rw [z1]
      exact eq2_st hI _ _ rfl rfl
  · rw [if_neg hx, if_neg hx]; exact eq2_st h _ _ rfl rfl
end vm
