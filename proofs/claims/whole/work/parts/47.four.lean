/-! ===== echo, round, rings, longest ===== -/
section fo
variable {g : Nat → Nat → Int32} {μC μM : o_Mem}
theorem e12_isCouple {m : o_Mem} (hw : wfN g) (hr : vR g (m.1 1)) (p s : Int32) : fX12_isCouple rfM 0 p s m = some (bI (rg p (cP g) ∧ rg s (cS g)), m) := by
  unfold fX12_isCouple
  simp only [e12_isPerson hw hr, e12_isStrike hw hr, p_bd, bI_if]
  by_cases h1 : rg p (cP g)
  · rw [if_pos h1]
    by_cases h2 : rg s (cS g)
    · rw [if_pos h2, bI_t ⟨h1, h2⟩]
    · rw [if_neg h2, bI_f (fun z => h2 z.2)]
  · rw [if_neg h1, bI_f (fun z => h1 z.1)]
theorem fo_ok {m l : o_Mem} (hw : wfV g) (hg : ∀ j, j < 20 → bV m 10 j = g j) (he : ∀ c, c < 36 → eR g c (l.1 10 c)) {p s : Nat} (hp : p < cP g) (hs : s < cS g) : ∃ m', fX6_follow rfC 145 10 (nI p) (nI s) m = some ((), m') ∧ (∀ i, i ≠ 145 → i ≠ 147 → m'.1 i = m.1 i) ∧ m'.2 = m.2 ∧
    ((m'.1 145 2 = 0 ∧ ∃ k, k ≤ 36 ∧ m'.1 145 1 = nI k ∧ fX12_echoFrom rfM 0 (nI (6 * p + s)) l = some (nI k, l) ∧ fX12_comesBack rfM 0 (nI (6 * p + s)) l = some (0, l)) ∨
     (∃ b r, 0 < r ∧ b + r ≤ 36 ∧ m'.1 145 2 = nI r ∧ m'.1 145 3 = nI b ∧ fX12_echoFrom rfM 0 (nI (6 * p + s)) l = some (-1, l) ∧ fX12_ringFrom rfM 0 (nI (6 * p + s)) l = some (nI r, l) ∧ fX12_comesBack rfM 0 (nI (6 * p + s)) l = some (if b = 0 then 1 else 0, l))) := by
  have bP := hw.1.2.2.1.2
  have bS := hw.1.1.2
  have hv : vC g (6 * p + s) := by unfold vC; omega
  obtain ⟨m', q, F1, F2, hR⟩ := e6_follow hw hg hp hs
  refine ⟨m', q, F1, F2, ?_⟩
  rcases hR with ⟨n, hA, h2, hG⟩ | ⟨b, r, hB, h2, h3⟩
  · refine Or.inl ⟨h2, ?_⟩
    have hn := hA.1
    rcases hG with ⟨hG, h1⟩ | ⟨hG, h1⟩
    · exact ⟨n, by omega, h1, ef_A he hw hv hA (Or.inl ⟨hG, rfl⟩), cb_A he hw hv hA (Or.inl hG)⟩
    · exact ⟨n + 1, by omega, h1, ef_A he hw hv hA (Or.inr ⟨hG, rfl⟩), cb_A he hw hv hA (Or.inr hG)⟩
  · exact Or.inr ⟨b, r, hB.1, hB.2.1, h2, h3, ef_B he hw hv hB, rf_B he hw hv hB, cb_B he hw hv hB⟩
theorem cb_no {l : o_Mem} (he : ∀ c, c < 36 → eR g c (l.1 10 c)) {c : Nat} (hc : c < 36) (hv : ¬ vC g c) : fX12_comesBack rfM 0 (nI c) l = some (0, l) := by
  have e : l.1 10 c = -1 := by
    rcases he c hc with ⟨h, -⟩ | ⟨-, h⟩
    · exact absurd h hv
    · exact h
  unfold fX12_comesBack
  rw [qm_25]
  simp (disch := omega) only [nI_toInt, nI_clamp, p_ck, e]
  rw [show o_lp 9 (fX12_comesBack_s9 rfM 0 (nI c)) o_fuel (-1, 0) l = some ((39, (0, 0)), l) from p_lp (n := 1) (p_lp_exit rfl (by decide)) (by omega)]
  rfl
theorem Inv_fo {m1 m2 : o_Mem} (h : Inv μC μM) (F1 : ∀ i, i ≠ 145 → i ≠ 147 → m1.1 i = μC.1 i) (F2 : m1.2 = μC.2) (G1 : ∀ i, i ≠ 10 → m2.1 i = μM.1 i) (G2 : m2.2 = μM.2) : Inv m1 m2 := Inv_scr h (fun i hi => F1 i (by omega) (by omega)) (fun i hi => by rw [F2]) (fun k hk => by rw [G1 0 (by omega)]) (fun i h1 h2 => G1 i (by omega)) (fun i hi => by rw [G2])
theorem pu_echo (h : Inv μC μM) (p s : Int32) : o_Eq2 (fX11_echo rfC 0 p s μC) (fX12_echo rfM 0 p s μM) Inv := by
  obtain ⟨hw, hr⟩ := Inv_v h
  have bP := hw.1.2.2.1.2
  have bS := hw.1.1.2
  unfold fX11_echo fX12_echo
  simp only [rc0_4, rc0_16, e8_isCouple rfC hw.1, e12_isCouple hw.1 hr, p_bd, bI_if, e11_refuses, e12_refuse, e12_gives, e11_gives]
  by_cases hx : rg p (cP (bV μC 10)) ∧ rg s (cS (bV μC 10))
  · rw [if_pos hx, if_pos hx]
    obtain ⟨p, hp, hp2, rfl⟩ := rg_nI hx.1
    obtain ⟨s, hs, hs2, rfl⟩ := rg_nI hx.2
    obtain ⟨m2, q2, G1, G2, G3⟩ := e12_lays hw hr
    obtain ⟨m1, q1, F1, F2, F3⟩ := fo_ok hw (fun _ _ => rfl) G3 hp hs
    have hI := Inv_fo h F1 F2 G1 G2
    rw [q1, q2, p_bd, p_bd, mL_6, nI_add']
    rcases F3 with ⟨e2, k, hk, e1, e3, -⟩ | ⟨b, r, hr0, hbr, e2, -, e3, -⟩
    · rw [e2, e1, e3, p_bd, if_pos (by decide), if_neg (nI_nm1 (by omega))]
      exact eq2_st hI _ _ rfl rfl
    · rw [e2, e3, p_bd, if_neg (show ¬ nI r ≤ 0 by rw [show (0 : Int32) = nI 0 from rfl, n_le (by omega) (by omega)]; omega), if_pos rfl]
      exact eq2_st hI _ _ rfl rfl
  · rw [if_neg hx, if_neg hx]; exact eq2_st h _ _ rfl rfl
theorem pu_round (h : Inv μC μM) (p s : Int32) : o_Eq2 (fX11_round rfC 0 p s μC) (fX12_round rfM 0 p s μM) Inv := by
  obtain ⟨hw, hr⟩ := Inv_v h
  have bP := hw.1.2.2.1.2
  have bS := hw.1.1.2
  unfold fX11_round fX12_round
  simp only [rc0_4, rc0_16, e8_isCouple rfC hw.1, e12_isCouple hw.1 hr, p_bd, bI_if, e11_refuses, e12_refuse, e12_gives, e11_gives]
  by_cases hx : rg p (cP (bV μC 10)) ∧ rg s (cS (bV μC 10))
  · rw [if_pos hx, if_pos hx]
    obtain ⟨p, hp, hp2, rfl⟩ := rg_nI hx.1
    obtain ⟨s, hs, hs2, rfl⟩ := rg_nI hx.2
    obtain ⟨m2, q2, G1, G2, G3⟩ := e12_lays hw hr
    obtain ⟨m1, q1, F1, F2, F3⟩ := fo_ok hw (fun _ _ => rfl) G3 hp hs
    have hI := Inv_fo h F1 F2 G1 G2
    rw [q1, q2, p_bd, p_bd, mL_6, nI_add']
    rcases F3 with ⟨e2, k, hk, e1, e3, -⟩ | ⟨b, r, hr0, hbr, e2, -, e3, e4, -⟩
    · rw [e2, e3, p_bd, if_pos (by decide), if_neg (nI_nm1 (by omega))]
      exact eq2_st hI _ _ rfl rfl
    · rw [e2, e3, p_bd, if_neg (show ¬ nI r ≤ 0 by rw [show (0 : Int32) = nI 0 from rfl, n_le (by omega) (by omega)]; omega), if_pos rfl, e4, p_bd]
      exact eq2_st hI _ _ rfl rfl
  · rw [if_neg hx, if_neg hx]; exact eq2_st h _ _ rfl rfl
def vI (o : Option (Int32 × o_Mem)) : Int32 := match o with
  | some x => x.1
  | none => 0
def sumC (f : Nat → Int32) : Nat → Int32
  | 0 => 0
  | c + 1 => sumC f c + f c
theorem sum_z {f : Nat → Int32} {a : Nat} : ∀ k, (∀ c, a ≤ c → c < a + k → f c = 0) → sumC f (a + k) = sumC f a
  | 0, _ => rfl
  | k + 1, h => by
    show sumC f (a + k) + f (a + k) = sumC f a
    rw [h (a + k) (by omega) (by omega), Int32.add_zero]
    exact sum_z k (fun c h1 h2 => h c h1 (by omega))
theorem pu_rings (h : Inv μC μM) : o_Eq2 (fX11_rings rfC 0 μC) (fX12_rings rfM 0 μM) Inv := by
  obtain ⟨hw, hr⟩ := Inv_v h
  have bP := hw.1.2.2.1.2
  have bS := hw.1.1.2
  obtain ⟨m2, q2, G1, G2, G3⟩ := e12_lays hw hr
  generalize hgd : bV μC 10 = g at *
  obtain ⟨f, hf⟩ : ∃ f : Nat → Int32, f = fun c => vI (fX12_comesBack rfM 0 (nI c) m2) := ⟨_, rfl⟩
  have hfv : ∀ c, c < 36 → fX12_comesBack rfM 0 (nI c) m2 = some (f c, m2) ∧ (f c = 0 ∨ f c = 1) ∧ (¬ vC g c → f c = 0) := fun c hc => by
    by_cases hv : vC g c
    · obtain ⟨m1, -, -, -, F3⟩ := fo_ok (m := μC) hw (fun j hj => by rw [hgd]) G3 hv.1 hv.2
      rw [Nat.div_add_mod] at F3
      have hx : ∃ x, fX12_comesBack rfM 0 (nI c) m2 = some (x, m2) ∧ (x = 0 ∨ x = 1) := by
        rcases F3 with ⟨-, k, -, -, -, e⟩ | ⟨b, r, -, -, -, -, -, -, e⟩
        · exact ⟨_, e, Or.inl rfl⟩
        · refine ⟨_, e, ?_⟩
          by_cases hb : b = 0
          · rw [if_pos hb]; exact Or.inr rfl
          · rw [if_neg hb]; exact Or.inl rfl
      obtain ⟨x, e, hx⟩ := hx
      have : f c = x := by rw [hf]; show vI (fX12_comesBack rfM 0 (nI c) m2) = x; rw [e]; rfl
      rw [this]
      exact ⟨e, hx, fun z => absurd hv z⟩
    · have e := cb_no G3 hc hv
      have : f c = 0 := by rw [hf]; show vI (fX12_comesBack rfM 0 (nI c) m2) = 0; rw [e]; rfl
      rw [this]
      exact ⟨e, Or.inl rfl, fun _ => rfl⟩
  have kM : o_lp 8 (fX12_rings_s8 rfM 0) o_fuel (0, 0) m2 = some ((36, (sumC f 36, 0)), m2) := by
    obtain ⟨e1, n1, r1, rfl, rfl⟩ := lp_one (h := 8) (s := fX12_rings_s8 rfM 0)
      (fun N τ μ => μ = m2 ∧ ∃ c, c + N = 36 ∧ τ = (sumC f c, nI c))
      (fun e μ => m2 = μ ∧ e = (36, (sumC f 36, 0)))
      (fun N τ μ hR => by
        obtain ⟨rfl, c, hN, rfl⟩ := hR
        unfold fX12_rings_s8 fX12_rings_j28
        rw [show (36 : Int32) = nI 36 from rfl]
        by_cases hi : N = 0
        · rw [if_pos ((n_le (by omega) (by omega)).mpr (by omega))]
          refine ⟨_, _, rfl, Or.inr ⟨show ¬ 36 = 8 by decide, rfl, ?_⟩⟩
          rw [show c = 36 by omega]
        · rw [if_neg (fun z => by rw [n_le (by omega) (by omega)] at z; omega)]
          obtain ⟨e, h01, -⟩ := hfv c (by omega)
          rw [e, p_bd, aR_1]
          rcases h01 with h0 | h0
          · rw [if_pos h0]
            exact ⟨_, _, rfl, Or.inl ⟨rfl, N - 1, by omega, rfl, c + 1, by omega, by show (sumC f c + 0, nI (c + 1)) = (sumC f c + f c, nI (c + 1)); rw [h0]⟩⟩
          · rw [if_neg (by rw [h0]; decide)]
            exact ⟨_, _, rfl, Or.inl ⟨rfl, N - 1, by omega, rfl, c + 1, by omega, by show (sumC f c + 1, nI (c + 1)) = (sumC f c + f c, nI (c + 1)); rw [h0]⟩⟩)
      o_fuel 36 (0, 0) m2 (fu (by omega)) ⟨rfl, 0, by omega, rfl⟩
    exact r1
  have ew : ∀ μ : o_Mem, (∀ i, i ≠ 145 → i ≠ 147 → μ.1 i = μC.1 i) → μ.1 10 0 = nI (cS g) ∧ μ.1 10 2 = nI (cP g) ∧ ∀ j, j < 20 → bV μ 10 j = g j := fun μ hμ => by
    rw [hμ 10 (by omega) (by omega)]
    refine ⟨?_, ?_, fun j hj => by rw [bV_c2 hμ j hj, hgd]⟩
    · have := hw.1.1.1; rw [← hgd] at this ⊢; exact this
    · have := hw.1.2.2.1.1; rw [← hgd] at this ⊢; exact this
  obtain ⟨e1, m1, q1, rfl, F1, F2⟩ := lp_one (h := 4) (s := fX11_rings_s4 rfC 0)
    (fun N τ μ => (∃ p, p + N = cP g ∧ τ = (sumC f (6 * p), nI p)) ∧ (∀ i, i ≠ 145 → i ≠ 147 → μ.1 i = μC.1 i) ∧ μ.2 = μC.2)
    (fun e μ => e = (76, (sumC f 36, 0)) ∧ (∀ i, i ≠ 145 → i ≠ 147 → μ.1 i = μC.1 i) ∧ μ.2 = μC.2)
    (fun N τ μ hR => by
      obtain ⟨⟨p, hN, rfl⟩, h1, h2⟩ := hR
      obtain ⟨w1, w2, w3⟩ := ew μ h1
      unfold fX11_rings_s4
      rw [rc0_4, w2]
      by_cases hi : N = 0
      · rw [if_pos ((n_le (by omega) (by omega)).mpr (by omega))]
        refine ⟨_, _, rfl, Or.inr ⟨show ¬ 76 = 4 by decide, ?_, h1, h2⟩⟩
        have := sum_z (f := f) (a := 6 * p) (36 - 6 * p) (fun c c1 c2 => (hfv c (by omega)).2.2 (fun z => by have := z.1; omega))
        rw [show 6 * p + (36 - 6 * p) = 36 by omega] at this
        rw [this]
      · rw [if_neg (fun z => by rw [n_le (by omega) (by omega)] at z; omega)]
        obtain ⟨e3, m3, q3, rfl, H1, H2⟩ := lp_one (h := 17) (s := fX11_rings_s17 rfC 0 (nI p))
          (fun N τ μ => (∃ s, s + N = cS g ∧ τ = (sumC f (6 * p + s), nI s)) ∧ (∀ i, i ≠ 145 → i ≠ 147 → μ.1 i = μC.1 i) ∧ μ.2 = μC.2)
          (fun e μ => e = (70, (sumC f (6 * p + cS g), 0)) ∧ (∀ i, i ≠ 145 → i ≠ 147 → μ.1 i = μC.1 i) ∧ μ.2 = μC.2)
          (fun N τ μ hR => by
            obtain ⟨⟨s, hN, rfl⟩, h1, h2⟩ := hR
            obtain ⟨w1, w2, w3⟩ := ew μ h1
            unfold fX11_rings_s17
            rw [rc0_4, rc0_16, w1]
            by_cases hi : N = 0
            · rw [if_pos ((n_le (by omega) (by omega)).mpr (by omega))]
              exact ⟨_, _, rfl, Or.inr ⟨show ¬ 70 = 17 by decide, by rw [show s = cS g by omega], h1, h2⟩⟩
            · rw [if_neg (fun z => by rw [n_le (by omega) (by omega)] at z; omega)]
              obtain ⟨m', a1, a2, a3, a4⟩ := fo_ok hw w3 G3 (p := p) (s := s) (by omega) (by omega)
              have hff := (hfv (6 * p + s) (by omega)).1
              rw [a1, p_bd, aR_1]
              have fr : (∀ i, i ≠ 145 → i ≠ 147 → m'.1 i = μC.1 i) ∧ m'.2 = μC.2 := ⟨fun i i1 i2 => (a2 i i1 i2).trans (h1 i i1 i2), a3.trans h2⟩
              rcases a4 with ⟨e2, k, hk, e1, -, e3⟩ | ⟨b, r, hr0, hbr, e2, e3, -, -, e4⟩
              · rw [e3] at hff
                have hf0 : f (6 * p + s) = 0 := by injection hff with hff; injection hff with hff; exact hff.symm
                rw [e2, if_pos (by decide)]
                exact ⟨_, _, rfl, Or.inl ⟨rfl, N - 1, by omega, ⟨s + 1, by omega, by show (sumC f (6 * p + s), nI (s + 1)) = (sumC f (6 * p + s) + f (6 * p + s), nI (s + 1)); rw [hf0, Int32.add_zero]⟩, fr⟩⟩
              · rw [e4] at hff
                have hf0 : f (6 * p + s) = if b = 0 then 1 else 0 := by injection hff with hff; injection hff with hff; exact hff.symm
                rw [e2, if_neg (show ¬ nI r ≤ 0 by rw [show (0 : Int32) = nI 0 from rfl, n_le (by omega) (by omega)]; omega), e3]
                by_cases hb : b = 0
                · rw [if_pos hb] at hf0
                  rw [if_pos (show nI b = 0 by rw [hb]; rfl)]
                  exact ⟨_, _, rfl, Or.inl ⟨rfl, N - 1, by omega, ⟨s + 1, by omega, by show (sumC f (6 * p + s) + 1, nI (s + 1)) = (sumC f (6 * p + s) + f (6 * p + s), nI (s + 1)); rw [hf0]⟩, fr⟩⟩
                · rw [if_neg hb] at hf0
                  rw [if_neg (show ¬ nI b = 0 by rw [show (0 : Int32) = nI 0 from rfl, nI_inj (by omega) (by omega)]; exact hb)]
                  exact ⟨_, _, rfl, Or.inl ⟨rfl, N - 1, by omega, ⟨s + 1, by omega, by show (sumC f (6 * p + s), nI (s + 1)) = (sumC f (6 * p + s) + f (6 * p + s), nI (s + 1)); rw [hf0, Int32.add_zero]⟩, fr⟩⟩)
          o_fuel (cS g) (sumC f (6 * p), 0) μ (fu (by omega)) ⟨⟨0, by omega, rfl⟩, h1, h2⟩
        rw [q3, p_bd, if_pos rfl, aR_1]
        refine ⟨_, _, rfl, Or.inl ⟨rfl, N - 1, by omega, ⟨p + 1, by omega, ?_⟩, H1, H2⟩⟩
        have := sum_z (f := f) (a := 6 * p + cS g) (6 - cS g) (fun c c1 c2 => (hfv c (by omega)).2.2 (fun z => by have := z.2; omega))
        rw [show 6 * p + cS g + (6 - cS g) = 6 * (p + 1) by omega] at this
        rw [this])
    o_fuel (cP g) (0, 0) μC (fu (by omega)) ⟨⟨0, by omega, rfl⟩, fun i _ _ => rfl, rfl⟩
  unfold fX11_rings fX12_rings
  rw [q1, q2, p_bd, p_bd, if_pos rfl, kM, p_bd, if_pos rfl, e11_gives, e12_gives]
  exact eq2_st (Inv_fo h F1 F2 G1 G2) _ _ rfl rfl
/-- the longest so far -/
def lo (np ns : Nat) (f : Nat → Int32) : Nat → Int32 × Int32
  | 0 => (-1, -1)
  | c + 1 => if c / 6 < np ∧ c % 6 < ns ∧ (lo np ns f c).1 < f c then (f c, nI (10 * (c / 6) + c % 6)) else lo np ns f c
theorem lo_ge (np ns : Nat) (f : Nat → Int32) : ∀ c, -1 ≤ (lo np ns f c).1.toInt
  | 0 => by show -1 ≤ (-1 : Int32).toInt; decide
  | c + 1 => by
    have ih := lo_ge np ns f c
    unfold lo
    by_cases h : c / 6 < np ∧ c % 6 < ns ∧ (lo np ns f c).1 < f c
    · rw [if_pos h]
      have := (i32_lt _ _).mp h.2.2
      show -1 ≤ (f c).toInt
      omega
    · rw [if_neg h]; exact ih
theorem lo_z {np ns : Nat} {f : Nat → Int32} {a : Nat} : ∀ k, (∀ c, a ≤ c → c < a + k → ¬ (c / 6 < np ∧ c % 6 < ns)) → lo np ns f (a + k) = lo np ns f a
  | 0, _ => rfl
  | k + 1, h => by
    have hn := h (a + k) (by omega) (by omega)
    show (if (a + k) / 6 < np ∧ (a + k) % 6 < ns ∧ (lo np ns f (a + k)).1 < f (a + k) then (f (a + k), nI (10 * ((a + k) / 6) + (a + k) % 6)) else lo np ns f (a + k)) = lo np ns f a
    rw [if_neg (fun z => hn ⟨z.1, z.2.1⟩)]
    exact lo_z k (fun c h1 h2 => h c h1 (by omega))
end fo
