/-! ===== longest ===== -/
section lg
variable {g : Nat → Nat → Int32} {μC μM : o_Mem}
theorem pu_longest (h : Inv μC μM) : o_Eq2 (fX11_longest rfC 0 μC) (fX12_longest rfM 0 μM) Inv := by
  obtain ⟨hw, hr⟩ := Inv_v h
  have bP := hw.1.2.2.1.2
  have bS := hw.1.1.2
  obtain ⟨m2, q2, G1, G2, G3⟩ := e12_lays hw hr
  generalize hgd : bV μC 10 = g at *
  have hr2 : vR g (m2.1 1) := by rw [G1 1 (by omega)]; exact hr
  obtain ⟨f, hf⟩ : ∃ f : Nat → Int32, f = fun c => vI (fX12_echoFrom rfM 0 (nI c) m2) := ⟨_, rfl⟩
  have hfv : ∀ c x, fX12_echoFrom rfM 0 (nI c) m2 = some (x, m2) → f c = x := fun c x e => by rw [hf]; show vI (fX12_echoFrom rfM 0 (nI c) m2) = x; rw [e]; rfl
  obtain ⟨L, hL⟩ : ∃ L, L = lo (cP g) (cS g) f := ⟨_, rfl⟩
  have hLs : ∀ c, L (c + 1) = if c / 6 < cP g ∧ c % 6 < cS g ∧ (L c).1 < f c then (f c, nI (10 * (c / 6) + c % 6)) else L c := fun c => by rw [hL]; rfl
  have hLge : ∀ c, ¬ (L c).1 < -1 := fun c => by
    have := lo_ge (cP g) (cS g) f c
    rw [← hL] at this
    rw [i32_lt, c32_m1]
    omega
  have kM : o_lp 10 (fX12_longest_s10 rfM 0) o_fuel (-1, -1, 0) m2 = some ((68, ((L 36).2, 0, 0)), m2) := by
    obtain ⟨e1, n1, r1, rfl, rfl⟩ := lp_one (h := 10) (s := fX12_longest_s10 rfM 0)
      (fun N τ μ => μ = m2 ∧ ∃ c, c + N = 36 ∧ τ = ((L c).2, (L c).1, nI c))
      (fun e μ => m2 = μ ∧ e = (68, ((L 36).2, 0, 0)))
      (fun N τ μ hR => by
        obtain ⟨rfl, c, hN, rfl⟩ := hR
        unfold fX12_longest_s10
        rw [show (36 : Int32) = nI 36 from rfl]
        by_cases hi : N = 0
        · rw [if_pos ((n_le (by omega) (by omega)).mpr (by omega))]
          refine ⟨_, _, rfl, Or.inr ⟨show ¬ 68 = 10 by decide, rfl, ?_⟩⟩
          rw [show c = 36 by omega]
        · rw [if_neg (fun z => by rw [n_le (by omega) (by omega)] at z; omega), nI_d6 (by omega), nI_m6 (by omega), e12_isCouple hw.1 hr2, p_bd, bI_if, aR_1]
          have hcp : rg (nI (c / 6)) (cP g) ∧ rg (nI (c % 6)) (cS g) ↔ c / 6 < cP g ∧ c % 6 < cS g := by
            show (0 ≤ (nI (c / 6)).toInt ∧ (nI (c / 6)).toInt < cP g) ∧ (0 ≤ (nI (c % 6)).toInt ∧ (nI (c % 6)).toInt < cS g) ↔ _
            rw [nI_toInt (by omega), nI_toInt (by omega)]
            omega
          by_cases hv : c / 6 < cP g ∧ c % 6 < cS g
          · rw [if_pos (hcp.mpr hv)]
            obtain ⟨m1, -, -, -, F3⟩ := fo_ok (m := μC) hw (fun j hj => by rw [hgd]) G3 hv.1 hv.2
            rw [Nat.div_add_mod] at F3
            have hx : ∃ x, fX12_echoFrom rfM 0 (nI c) μ = some (x, μ) := by
              rcases F3 with ⟨-, k, -, -, e, -⟩ | ⟨b, r, -, -, -, -, e, -⟩
              · exact ⟨_, e⟩
              · exact ⟨_, e⟩
            obtain ⟨x, e⟩ := hx
            have hfc := hfv c x e
            rw [e, p_bd]
            by_cases hlt : (L c).1 < x
            · rw [if_pos hlt, show ((L c).2, (L c).1, nI c).2.2 = nI c from rfl, e, p_bd, mL_10, nI_add']
              refine ⟨_, _, rfl, Or.inl ⟨rfl, N - 1, by omega, rfl, c + 1, by omega, ?_⟩⟩
              rw [hLs, if_pos ⟨hv.1, hv.2, by rw [hfc]; exact hlt⟩, hfc]
            · rw [if_neg hlt]
              refine ⟨_, _, rfl, Or.inl ⟨rfl, N - 1, by omega, rfl, c + 1, by omega, ?_⟩⟩
              rw [hLs, if_neg (fun z => hlt (by rw [← hfc]; exact z.2.2))]
          · rw [if_neg (fun z => hv (hcp.mp z))]
            refine ⟨_, _, rfl, Or.inl ⟨rfl, N - 1, by omega, rfl, c + 1, by omega, ?_⟩⟩
            rw [hLs, if_neg (fun z => hv ⟨z.1, z.2.1⟩)])
      o_fuel 36 (-1, -1, 0) m2 (fu (by omega)) ⟨rfl, 0, by omega, by rw [hL]; rfl⟩
    exact r1
  have ew : ∀ μ : o_Mem, (∀ i, i ≠ 145 → i ≠ 147 → μ.1 i = μC.1 i) → μ.1 10 0 = nI (cS g) ∧ μ.1 10 2 = nI (cP g) ∧ ∀ j, j < 20 → bV μ 10 j = g j := fun μ hμ => by
    rw [hμ 10 (by omega) (by omega)]
    refine ⟨?_, ?_, fun j hj => by rw [bV_c2 hμ j hj, hgd]⟩
    · have := hw.1.1.1; rw [← hgd] at this ⊢; exact this
    · have := hw.1.2.2.1.1; rw [← hgd] at this ⊢; exact this
  obtain ⟨e1, m1, q1, rfl, F1, F2⟩ := lp_one (h := 6) (s := fX11_longest_s6 rfC 0)
    (fun N τ μ => (∃ p, p + N = cP g ∧ τ = ((L (6 * p)).1, (L (6 * p)).2, nI p)) ∧ (∀ i, i ≠ 145 → i ≠ 147 → μ.1 i = μC.1 i) ∧ μ.2 = μC.2)
    (fun e μ => e = (95, (0, (L 36).2, 0)) ∧ (∀ i, i ≠ 145 → i ≠ 147 → μ.1 i = μC.1 i) ∧ μ.2 = μC.2)
    (fun N τ μ hR => by
      obtain ⟨⟨p, hN, rfl⟩, h1, h2⟩ := hR
      obtain ⟨w1, w2, w3⟩ := ew μ h1
      unfold fX11_longest_s6
      rw [rc0_4, w2]
      by_cases hi : N = 0
      · rw [if_pos ((n_le (by omega) (by omega)).mpr (by omega))]
        refine ⟨_, _, rfl, Or.inr ⟨show ¬ 95 = 6 by decide, ?_, h1, h2⟩⟩
        have := lo_z (np := cP g) (ns := cS g) (f := f) (a := 6 * p) (36 - 6 * p) (fun c c1 c2 z => by have := z.1; omega)
        rw [show 6 * p + (36 - 6 * p) = 36 by omega, ← hL] at this
        rw [this]
      · rw [if_neg (fun z => by rw [n_le (by omega) (by omega)] at z; omega)]
        obtain ⟨e3, m3, q3, rfl, H1, H2⟩ := lp_one (h := 20) (s := fX11_longest_s20 rfC 0 (nI p))
          (fun N τ μ => (∃ s, s + N = cS g ∧ τ = ((L (6 * p + s)).1, (L (6 * p + s)).2, nI s)) ∧ (∀ i, i ≠ 145 → i ≠ 147 → μ.1 i = μC.1 i) ∧ μ.2 = μC.2)
          (fun e μ => e = (89, ((L (6 * p + cS g)).1, (L (6 * p + cS g)).2, 0)) ∧ (∀ i, i ≠ 145 → i ≠ 147 → μ.1 i = μC.1 i) ∧ μ.2 = μC.2)
          (fun N τ μ hR => by
            obtain ⟨⟨s, hN, rfl⟩, h1, h2⟩ := hR
            obtain ⟨w1, w2, w3⟩ := ew μ h1
            unfold fX11_longest_s20
            rw [rc0_4, rc0_16, w1]
            by_cases hi : N = 0
            · rw [if_pos ((n_le (by omega) (by omega)).mpr (by omega))]
              exact ⟨_, _, rfl, Or.inr ⟨show ¬ 89 = 20 by decide, by rw [show s = cS g by omega], h1, h2⟩⟩
            · rw [if_neg (fun z => by rw [n_le (by omega) (by omega)] at z; omega)]
              obtain ⟨m', a1, a2, a3, a4⟩ := fo_ok hw w3 G3 (p := p) (s := s) (by omega) (by omega)
              rw [a1, p_bd, aR_1]
              have fr : (∀ i, i ≠ 145 → i ≠ 147 → m'.1 i = μC.1 i) ∧ m'.2 = μC.2 := ⟨fun i i1 i2 => (a2 i i1 i2).trans (h1 i i1 i2), a3.trans h2⟩
              have hs1 := hLs (6 * p + s)
              rw [show (6 * p + s) / 6 = p by omega, show (6 * p + s) % 6 = s by omega] at hs1
              rcases a4 with ⟨e2, k, hk, e1, e3, -⟩ | ⟨b, r, hr0, hbr, e2, -, e3, -⟩
              · rw [hfv _ _ e3] at hs1
                rw [e2, if_pos rfl, e1]
                by_cases hle : nI k ≤ (L (6 * p + s)).1
                · rw [if_pos hle]
                  refine ⟨_, _, rfl, Or.inl ⟨rfl, N - 1, by omega, ⟨s + 1, by omega, ?_⟩, fr⟩⟩
                  rw [← Nat.add_assoc, hs1, if_neg (fun z => absurd z.2.2 (by rw [i32_nle]; exact not_not_intro hle))]
                · rw [if_neg hle, mL_10, nI_add']
                  refine ⟨_, _, rfl, Or.inl ⟨rfl, N - 1, by omega, ⟨s + 1, by omega, ?_⟩, fr⟩⟩
                  rw [← Nat.add_assoc, hs1, if_pos ⟨by omega, by omega, by rw [i32_nle]; exact hle⟩]
              · rw [hfv _ _ e3] at hs1
                rw [e2, if_neg (show ¬ nI r = 0 by rw [show (0 : Int32) = nI 0 from rfl, nI_inj (by omega) (by omega)]; omega)]
                refine ⟨_, _, rfl, Or.inl ⟨rfl, N - 1, by omega, ⟨s + 1, by omega, ?_⟩, fr⟩⟩
                rw [← Nat.add_assoc, hs1, if_neg (fun z => hLge _ z.2.2)])
          o_fuel (cS g) ((L (6 * p)).1, (L (6 * p)).2, 0) μ (fu (by omega)) ⟨⟨0, by omega, rfl⟩, h1, h2⟩
        rw [q3, p_bd, if_pos rfl, aR_1]
        refine ⟨_, _, rfl, Or.inl ⟨rfl, N - 1, by omega, ⟨p + 1, by omega, ?_⟩, H1, H2⟩⟩
        have := lo_z (np := cP g) (ns := cS g) (f := f) (a := 6 * p + cS g) (6 - cS g) (fun c c1 c2 z => by have := z.2; omega)
        rw [show 6 * p + cS g + (6 - cS g) = 6 * (p + 1) by omega, ← hL] at this
        rw [this])
    o_fuel (cP g) (-1, -1, 0) μC (fu (by omega)) ⟨⟨0, by omega, by rw [hL]; rfl⟩, fun i _ _ => rfl, rfl⟩
  unfold fX11_longest fX12_longest
  rw [q1, q2, p_bd, p_bd, if_pos rfl, kM, p_bd, if_pos rfl, e11_any', e12_any']
  exact eq2_st (Inv_fo h F1 F2 G1 G2) _ _ rfl rfl
end lg
