/-! ===== WEEKS ===== -/
theorem k55 : kdC 55 = .inl 3 := by decide
theorem vR_12 {g : Nat → Nat → Int32} {a a' : Nat → Int32} (hw : wfN g) (hm : ∀ q, q ≠ 12 → q < 259 → a' q = a q) (hr : vR g a) : vR g a' := by
  obtain ⟨r1, r2, r3, r4, r5, r6, r7⟩ := hr
  obtain ⟨⟨-, b1⟩, ⟨-, b2⟩, ⟨-, b3⟩, ⟨-, b4⟩, ⟨-, b5⟩, ⟨-, b6⟩⟩ := hw
  refine ⟨?_, fun q hq => ?_, fun q hq => ?_, fun l w hl hw => ?_, fun q s hq hs => ?_, fun q w hq hw => ?_, fun q w hq hw => ?_⟩
  · rw [hm 0 (by omega) (by omega), hm 1 (by omega) (by omega), hm 2 (by omega) (by omega), hm 3 (by omega) (by omega), hm 4 (by omega) (by omega), hm 5 (by omega) (by omega), hm 6 (by omega) (by omega), hm 7 (by omega) (by omega), hm 8 (by omega) (by omega), hm 9 (by omega) (by omega), hm 10 (by omega) (by omega), hm 11 (by omega) (by omega)]; exact r1
  · rw [hm _ (by omega) (by omega), hm _ (by omega) (by omega)]; exact r2 q hq
  · rw [hm _ (by omega) (by omega)]; exact r3 q hq
  · rw [hm _ (by omega) (by omega)]; exact r4 l w hl hw
  · rw [hm (79 + _) (by omega) (by omega), hm (80 + _) (by omega) (by omega)]; exact r5 q s hq hs
  · rw [hm _ (by omega) (by omega)]; exact r6 q w hq hw
  · rw [hm _ (by omega) (by omega)]; exact r7 q w hq hw
section wm
variable {μC μM : o_Mem}
theorem pu_weeks (h : Inv μC μM) (x : Int32) : o_Eq2 (fX11_weeks rfC 0 x μC) (fX12_weeks rfM 0 x μM) Inv := by
  have hTp := h.2.2.1
  obtain ⟨N, n9, n1, n2, n3⟩ := hTp
  unfold fX11_weeks fX11_weeks_j24
  simp only [rc0_6, rc0_7, rc0_11, rc0_13, n1, e11_within, p_bd, bI_if, i64_of, c64_0, nI_toInt (show N < 2 ^ 31 by omega)]
  by_cases hx : (0 ≤ x.toInt ∧ x.toInt ≤ N) ∧ x ≤ 300
  · rw [if_pos hx.1, if_pos hx.2]
    obtain ⟨n, hn, hn2, hxn⟩ := rg_nI (x := x) (n := N + 1) ⟨hx.1.1, by omega⟩
    have h300 : n ≤ 300 := by
      have := hx.2
      rw [hxn] at this
      exact (n_le (a := n) (b := 300) (by omega) (by omega)).mp this
    obtain ⟨a1, a2, q1, q2, hst, ⟨A1, A2, A3⟩, B1, B2, B3, B4⟩ := w_begin h.2.2.1 (n := n) (lim := 300) hxn ⟨N, by omega, n9, n1⟩ h300 (by omega)
    have q2' : fX12_begins rfM 0 x 300 μM = some (1, a2) := q2
    unfold fX10_accept fX12_weeks fX3_clear
    rw [rc140_0, rc140_2, q1, q2', p_bd, p_bd, if_neg (show ¬ (1 : Int32) = 0 by decide), qm_0]
    simp only [p_seq, p_bd]
    generalize hc1 : o_wI (o_wI (o_wI (o_wI (o_wI a1 55 0 0) 55 1 0) 55 2 0) 55 0 1) 140 4 0 = c1
    generalize hc2 : o_wI (o_wI (o_wI a2 1 2516 0) 0 22 0) 0 23 0 = c2
    have c1o : ∀ i, i ≠ 55 → i ≠ 140 → c1.1 i = a1.1 i := fun i h1 h2 => by rw [← hc1, p_wI_o h2, p_wI_o h1, p_wI_o h1, p_wI_o h1, p_wI_o h1]
    have c12 : c1.2 = a1.2 := by rw [← hc1]; rfl
    have c550 : c1.1 55 0 = 1 := by rw [← hc1, p_wI_o (by omega), p_wI1, if_pos ⟨rfl, rfl⟩]
    have c551 : c1.1 55 1 = 0 := by rw [← hc1, p_wI_o (by omega), p_wI1, if_neg (by omega), p_wI1, if_neg (by omega), p_wI1, if_pos ⟨rfl, rfl⟩]
    have c552 : c1.1 55 2 = 0 := by rw [← hc1, p_wI_o (by omega), p_wI1, if_neg (by omega), p_wI1, if_pos ⟨rfl, rfl⟩]
    have c1404 : c1.1 140 4 = 0 := by rw [← hc1, p_wI1, if_pos ⟨rfl, rfl⟩]
    have c2o : ∀ i, i ≠ 0 → i ≠ 1 → c2.1 i = a2.1 i := fun i h1 h2 => by rw [← hc2, p_wI_o h1, p_wI_o h1, p_wI_o h2]
    have c20 : ∀ k, k ≠ 22 → k ≠ 23 → c2.1 0 k = a2.1 0 k := fun k h1 h2 => by rw [← hc2, p_wI1, if_neg (fun z => h2 z.2), p_wI1, if_neg (fun z => h1 z.2), p_wI_o (by omega)]
    have c2022 : c2.1 0 22 = 0 := by rw [← hc2, p_wI1, if_neg (by omega), p_wI1, if_pos ⟨rfl, rfl⟩]
    have c2023 : c2.1 0 23 = 0 := by rw [← hc2, p_wI1, if_pos ⟨rfl, rfl⟩]
    have c21 : ∀ k, k ≠ 2516 → c2.1 1 k = a2.1 1 k := fun k hk => by rw [← hc2, p_wI_o (by omega), p_wI_o (by omega), p_wI1, if_neg (fun z => hk z.2)]
    have c2516 : c2.1 1 2516 = 0 := by rw [← hc2, p_wI_o (by omega), p_wI_o (by omega), p_wI1, if_pos ⟨rfl, rfl⟩]
    have c22 : c2.2 = a2.2 := by rw [← hc2]; rfl
    have hst0 : stT (μC.1 138) n c1 c2 := st_g hst (c1o 137 (by omega) (by omega)) (c1o 138 (by omega) (by omega)) (by rw [c12]) (fun k hk => c20 k (by omega) (by omega)) (c2o 7 (by omega) (by omega))
    have hsl := h.2.2.2.2.1
    obtain ⟨hwf, hvr, hnr, -⟩ := hsl
    have hwn := hwf.1
    obtain ⟨⟨w1, w1b⟩, ⟨w2, w2b⟩, ⟨w3, w3b⟩, -⟩ := hwn
    have hE0 : nmE 10 0 0 (cS (bV μC 10)) (cH (bV μC 10)) (cP (bV μC 10)) c1 c2 := by
      refine ⟨⟨?_, ?_, ?_⟩, ⟨?_, ?_, ?_⟩, ⟨w1b, w2b, w3b⟩, fun k hk => ?_, fun k hk => ?_, fun k hk => ?_⟩
      · rw [c1o 10 (by omega) (by omega), A1 10 (by omega)]; exact w1
      · rw [c1o 10 (by omega) (by omega), A1 10 (by omega)]; exact w2
      · rw [c1o 10 (by omega) (by omega), A1 10 (by omega)]; exact w3
      · rw [c21 0 (by omega), B1 1 (by omega) (by omega)]; exact hvr.1.1.trans w1
      · rw [c21 1 (by omega), B1 1 (by omega) (by omega)]; exact hvr.1.2.1.trans w2
      · rw [c21 2 (by omega), B1 1 (by omega) (by omega)]; exact hvr.1.2.2.1.trans w3
      · rw [c12, A3 (10 + 19) (by omega), c22, B4, show 6 * 0 + k = k by omega]; have := hnr.1 k hk; rw [show (fun k => μM.2 2 (0 + k)) k = μM.2 2 k by show μM.2 2 (0 + k) = _; rw [Nat.zero_add]] at this; exact this
      · rw [c12, A3 (10 + 19) (by omega), c22, B4]; have := hnr.2.1 k hk; rw [show (fun k => μM.2 2 (0 + k)) (6 + k) = μM.2 2 (0 + 6 + k) by show μM.2 2 (0 + (6 + k)) = _; rw [Nat.add_assoc]] at this; exact this
      · rw [c12, A3 (10 + 19) (by omega), c22, B4]; have := hnr.2.2 k hk; rw [show (fun k => μM.2 2 (0 + k)) (10 + k) = μM.2 2 (0 + 10 + k) by show μM.2 2 (0 + (10 + k)) = _; rw [Nat.add_assoc]] at this; exact this
    have hpx0 : pX c1 c2 c1 c2 := ⟨⟨fun _ _ _ _ _ => rfl, fun _ _ => rfl, Int.le_refl _, fun _ _ => rfl⟩, fun _ _ _ _ => rfl, fun _ _ => rfl, fun _ _ => rfl, rfl⟩
    have hwx0 : wkX (cS (bV μC 10)) (cP (bV μC 10)) 0 0 0 (fun _ => 0) (bV c1 55) (mS c2 2504) := by
      refine ⟨⟨by omega, by omega, by omega⟩, ⟨c550, c551, c552, ?_⟩, fun i hi => by omega, fun i j _ hj => by omega, fun q hq => by omega, fun q hq => by omega, fun q hq => by omega, fun q hq => by omega, fun q o hq => by omega⟩
      exact c2516
    obtain ⟨r, d1, d2, y1, y2, hpx, hr⟩ := wk_loop (k := 0) (d := 0) (c := 0) (σ := fun _ => 0) ⟨hst0, hwx0, ⟨c1404, c2022, c2023, fun i hi => by omega⟩, hE0, hpx0⟩ h300
    rw [y1, y2, p_bd, p_bd, if_pos rfl, if_pos rfl]
    have hLv := h.2.2.2.2.2.2
    -- a fault
    have bad : ∀ e1 e2 : o_Mem, pX c1 c2 e1 e2 → fl e1 e2 → o_Eq2 (some ((-1 : Int32), o_wI e1 0 0 9)) (fX12_weeks_j77 rfM 0 e2) Inv := fun e1 e2 hpx hf => by
      obtain ⟨⟨v1, v2, -, v3⟩, v4, v5, v6, v7⟩ := hpx
      have f1 : ∀ i, i < 55 ∨ 60 ≤ i → i ≠ 137 → i ≠ 140 → i ≠ 141 → e1.1 i = μC.1 i := fun i h1 h2 h3 h4 => by rw [v1 i h1 h2 h3 h4, c1o i (by omega) h3, A1 i h2]
      have f2 : ∀ i, i ≠ 137 → e1.2 i = μC.2 i := fun i h2 => by rw [v3 i h2, c12, A3 i h2]
      have f3 : e1.1 137 1 = 0 := by rw [v2 1 (by omega), c1o 137 (by omega) (by omega)]; exact A2
      have g1 : ∀ i, i ≠ 0 → i ≠ 1 → i ≠ 7 → i ≠ 8 → e2.1 i = μM.1 i := fun i h1 h2 h3 h4 => by rw [v4 i h1 h2 h4, c2o i h1 h2, B1 i h1 h3]
      have g2 : ∀ k, k < 10 ∨ k = 16 ∨ 24 ≤ k → e2.1 0 k = μM.1 0 k := fun k hk => by rw [v5 k (by omega), c20 k (by omega) (by omega), B2 k (by omega)]
      have g3 : e2.1 0 10 = 0 := by rw [v5 10 (by omega), c20 10 (by omega) (by omega)]; exact B3
      have g4 : ∀ k, k < 2504 → e2.1 1 k = μM.1 1 k := fun k hk => by rw [v6 k (by omega), c21 k (by omega), B1 1 (by omega) (by omega)]
      have g5 : e2.2 = μM.2 := by rw [v7, c22, B4]
      obtain ⟨y, yl, y7, z1, z2, z3⟩ := hf
      unfold fX12_weeks_j77 fX12_weeks_j132 fX12_taken
      have hy0 : ¬ e2.1 0 18 = 0 := by rw [z2, show (0 : Int32) = nI 0 from rfl, nI_inj (by omega) (by omega)]; omega
      rw [if_neg hy0, p_seq, show (o_wI e2 0 16 (e2.1 0 18)).1 0 18 = nI y by rw [p_wI1, if_neg (by omega)]; exact z2, if_neg (show ¬ nI y ≤ 0 by rw [show (0 : Int32) = nI 0 from rfl, n_le (by omega) (by omega)]; omega), e12_refuse, z2]
      refine ⟨_, _, _, rfl, rfl, Inv_st 9 (Inv_tx h (fun i h1 h2 => f1 i (by omega) (by omega) (by omega) (by omega)) (fun i h1 h2 => f2 i (by omega)) (fun k hk => by rw [p_wI1, if_neg (by omega), g2 k (by omega)]) (fun i h1 h2 => by rw [p_wI_o (by omega), g1 i (by omega) (by omega) (by omega) (by omega)]) (fun k h1 h2 => by rw [p_wI_o (by omega), g4 k (by omega)]) ⟨by rw [p_wI2, g5], by rw [p_wI2, g5]⟩ (fun k h1 h2 => by rw [p_wI2, g5]) ⟨f3, by rw [p_wI1, if_neg (by omega)]; exact g3⟩ ⟨?_, ?_⟩ (slR_c (fun i h1 h2 => ⟨f1 i (by omega) (by omega) (by omega) (by omega), f2 i (by omega)⟩) (fun i h1 h2 => f1 i (by omega) (by omega) (by omega) (by omega)) (fun k h1 h2 => by rw [p_wI_o (by omega)]; exact g4 k (by omega)) (fun k h1 h2 => by rw [p_wI2, g5]) h.2.2.2.2.1) ?_)⟩
      · rw [z1, p_wI1, if_pos ⟨rfl, rfl⟩]
      · rw [z3, p_wI1, if_neg (by omega)]
      · unfold iLv at hLv ⊢
        rw [f1 144 (by omega) (by omega) (by omega) (by omega), p_wI1, if_neg (by omega), g2 37 (by omega), p_wI_o (by omega), g1 18 (by omega) (by omega) (by omega) (by omega)]
        exact hLv
    unfold fX10_accept_j116 fX12_weeks_j57
    rcases hr with ⟨rfl, k, d, c, σ, hst1, hwx, ⟨e4, e22, e23, -⟩, hE, -⟩ | ⟨rfl, hf⟩
    · obtain ⟨ns1, ns2, ns3, ns4⟩ := hst1.2.2
      have hwx1 := hwx
      obtain ⟨⟨b1, b2, b3⟩, ⟨p00, p01, p02, a12⟩, -⟩ := hwx1
      rw [if_neg (show ¬ (1 : Int32) = 0 by decide), e4, ns3, if_pos rfl, e22]
      cases d with
      | succ d =>
        rw [if_neg (show ¬ nI (d + 1) ≤ 0 by rw [show (0 : Int32) = nI 0 from rfl, n_le (by omega) (by omega)]; omega), if_neg (show ¬ nI (d + 1) ≤ 0 by rw [show (0 : Int32) = nI 0 from rfl, n_le (by omega) (by omega)]; omega), rc140_0]
        obtain ⟨f1, f2, u1, u2, hF, hf⟩ := w_fail hst1 (x := 2) (by omega) (by omega)
        have u1' : fX4_fail rfC 137 2 d1 = some (0, f1) := u1
        have u2' : fX12_fails rfM 0 2 d2 = some (0, f2) := u2
        rw [u1', u2', p_bd, p_bd, p_bd, if_pos rfl, e11_refuses, p_bd]
        exact bad f1 f2 (pX_w hpx hF) hf
      | zero =>
        rw [if_pos (show nI 0 ≤ 0 by decide), if_pos (show nI 0 ≤ 0 by decide), p_ck _ (Or.inr rfl), p_bd, if_neg (show ¬ (1 : Int32) = 0 by decide)]
        have p00' : d1.1 55 0 = 1 := p00
        have a12' : d2.1 1 2516 = nI k := a12
        rw [e3_copy k50 k55 (by omega) d1 (by rw [p00']; exact Or.inr rfl), p_bd, e11_gives, p_bd, cpP_0 (by omega), show d1.1 55 1 = nI c from p01]
        unfold fX12_weeks_j77 fX12_weeks_j132 fX12_taken
        rw [ns3, if_pos rfl, qm_0, p_seq, a12']
        obtain ⟨e2, x2, E1, E2, E3⟩ := wk_copy (o_wI d2 1 12 (nI k))
        rw [x2, p_bd, if_pos rfl]
        have e18 : e2.1 0 18 = 0 := by rw [E1 0 (by omega), p_wI_o (by omega)]; exact ns3
        have e23' : e2.1 0 23 = nI c := by rw [E1 0 (by omega), p_wI_o (by omega)]; exact e23
        rw [e18, p_seq, show (o_wI e2 0 16 0).1 0 18 = 0 by rw [p_wI1, if_neg (by omega)]; exact e18, if_pos (show (0 : Int32) ≤ 0 by decide), e12_gives, p_bd, p_bd, e23']
        obtain ⟨⟨v1, v2, -, v3⟩, v4, v5, v6, v7⟩ := hpx
        have f1 : ∀ i, i < 50 ∨ 60 ≤ i → i ≠ 137 → i ≠ 140 → i ≠ 141 → (cpP d1 50 55).1 i = μC.1 i := fun i h1 h2 h3 h4 => by rw [cpP_o (by omega), v1 i (by omega) h2 h3 h4, c1o i (by omega) h3, A1 i h2]
        have f2 : ∀ i, i ≠ 137 → (cpP d1 50 55).2 i = μC.2 i := fun i h2 => by rw [cpP_2, v3 i h2, c12, A3 i h2]
        have f137 : (cpP d1 50 55).1 137 = d1.1 137 := cpP_o (by omega)
        have f3 : (cpP d1 50 55).1 137 1 = 0 := by rw [f137, v2 1 (by omega), c1o 137 (by omega) (by omega)]; exact A2
        generalize hG : o_wI e2 0 16 0 = G
        have Go : ∀ i, i ≠ 0 → G.1 i = e2.1 i := fun i hi => by rw [← hG, p_wI_o hi]
        have G0 : ∀ k, k ≠ 16 → G.1 0 k = d2.1 0 k := fun k hk => by rw [← hG, p_wI1, if_neg (fun z => hk z.2), E1 0 (by omega), p_wI_o (by omega)]
        have G16 : G.1 0 16 = 0 := by rw [← hG, p_wI1, if_pos ⟨rfl, rfl⟩]
        have G2 : G.2 = μM.2 := by rw [← hG, p_wI2, E2, p_wI2, v7, c22, B4]
        have G1 : ∀ q, G.1 1 q = if 259 ≤ q ∧ q < 619 then d2.1 1 (2504 + q) else if q = 12 then nI k else d2.1 1 q := fun q => by
          rw [Go 1 (by omega), E3 q, p_wI1, p_wI1]
          by_cases e : 259 ≤ q ∧ q < 619
          · rw [if_pos e, if_pos e, if_neg (by omega)]
          · rw [if_neg e, if_neg e]
            by_cases e' : q = 12
            · rw [if_pos ⟨rfl, e'⟩, if_pos e']
            · rw [if_neg (fun z => e' z.2), if_neg e']
        have g1 : ∀ i, i ≠ 0 → i ≠ 1 → i ≠ 7 → i ≠ 8 → G.1 i = μM.1 i := fun i h1 h2 h3 h4 => by rw [Go i h1, E1 i h2, p_wI_o h2, v4 i h1 h2 h4, c2o i h1 h2, B1 i h1 h3]
        have g2 : ∀ k, k < 10 ∨ 24 ≤ k → G.1 0 k = μM.1 0 k := fun k hk => by rw [G0 k (by omega), v5 k (by omega), c20 k (by omega) (by omega), B2 k (by omega)]
        have g3 : G.1 0 10 = 0 := by rw [G0 10 (by omega), v5 10 (by omega), c20 10 (by omega) (by omega)]; exact B3
        have g4 : ∀ q, q ≠ 12 → q < 259 ∨ 619 ≤ q → q < 2504 → G.1 1 q = μM.1 1 q := fun q h1 h2 h3 => by rw [G1, if_neg (by omega), if_neg h1, v6 q (by omega), c21 q (by omega), B1 1 (by omega) (by omega)]
        have hb : ∀ j, j < 20 → bV (cpP d1 50 55) 10 j = bV μC 10 j := fun j hj => by funext q; show (cpP d1 50 55).1 (10 + j) q = μC.1 (10 + j) q; rw [f1 _ (by omega) (by omega) (by omega) (by omega)]
        have hc' : ∀ j k, j < 19 → k < capV j → bV (cpP d1 50 55) 10 j k = bV μC 10 j k := fun j k hj _ => by rw [hb j (by omega)]
        obtain ⟨e01, e02, e03, -⟩ := cN_cap hc'
        refine ⟨_, _, _, rfl, rfl, Inv_st 0 (Inv_tx h (fun i h1 h2 => f1 i (by omega) (by omega) (by omega) (by omega)) (fun i h1 h2 => f2 i (by omega)) (fun k hk => g2 k (by omega)) (fun i h1 h2 => g1 i (by omega) (by omega) (by omega) (by omega)) (fun k h1 h2 => g4 k (by omega) (by omega) h2) ⟨by rw [G2], by rw [G2]⟩ (fun k h1 h2 => by rw [G2]) ⟨f3, g3⟩ ⟨?_, ?_⟩ ⟨wfV_cap hc' hwf, ?_, ?_, ?_⟩ ?_)⟩
        · rw [f137, ns1, G16]
        · rw [f137, ns2, G0 17 (by omega), ns4]
        · refine vR_cap (a := mS G 0) hc' (fun q hq => rfl) hwf.1 ?_
          have hm : ∀ q, q ≠ 12 → q < 259 → mS G 0 q = mS μM 0 q := fun q h1 h2 => by
            show G.1 1 (0 + q) = μM.1 1 (0 + q)
            rw [Nat.zero_add]
            exact g4 q h1 (by omega) (by omega)
          exact vR_12 hwf.1 hm hvr
        · unfold nR at hnr ⊢
          rw [e01, e02, e03, f2 (10 + 19) (by omega), G2]
          exact hnr
        · refine pR_cap (g := bV μC 10) (pl := bV d1 55) (a := mS d2 2504) e01 e03 (fun k hk => ?_) (fun j k h1 h4 hk => ?_) (fun q hq => ?_) (wk_fin hwx rfl rfl)
          · exact cpP_0 hk
          · exact cpP_r h1 h4 hk
          · show G.1 1 (0 + q) = d2.1 1 (2504 + q)
            rw [Nat.zero_add, G1]
            rcases hq with e | e
            · rw [if_neg (by omega), if_pos e, e]; exact a12'.symm
            · rw [if_pos e]
        · unfold iLv at hLv ⊢
          rw [f1 144 (by omega) (by omega) (by omega) (by omega), g2 37 (by omega), g1 18 (by omega) (by omega) (by omega) (by omega)]
          exact hLv
    · rw [if_pos rfl, p_ck _ (Or.inl rfl), p_bd, if_pos rfl, e11_refuses, p_bd]
      have hy0 : ¬ d2.1 0 18 = 0 := by
        obtain ⟨y, yl, y7, z1, z2, z3⟩ := hf
        rw [z2, show (0 : Int32) = nI 0 from rfl, nI_inj (by omega) (by omega)]; omega
      rw [if_neg hy0]
      exact bad d1 d2 hpx hf
  · have e1 : (if 0 ≤ x.toInt ∧ x.toInt ≤ (N : Int) then if x ≤ 300 then o_bd (fX10_accept rfC 140 x μC) fun r2 μ2 => if r2 = 0 then o_bd (fX11_refuses rfC 0 9 μ2) fun r4 μ5 => some (r4, μ5) else o_bd (fX3_copyFrom rfC 50 55 μ2) fun _u μ3 => o_bd (fX11_gives rfC 0 (μ3.1 50 1) μ3) fun r3 μ4 => some (r3, μ4) else o_bd (fX11_refuses rfC 0 1 μC) fun r1 μ1 => some (r1, μ1) else o_bd (fX11_refuses rfC 0 1 μC) fun r1 μ1 => some (r1, μ1)) = some (-1, o_wI μC 0 0 1) := by
      by_cases h1 : 0 ≤ x.toInt ∧ x.toInt ≤ (N : Int)
      · rw [if_pos h1, if_neg (fun z => hx ⟨h1, z⟩)]; rfl
      · rw [if_neg h1]; rfl
    have e2 : fX12_begins rfM 0 x 300 μM = some (0, μM) := by
      unfold fX12_begins
      rw [n2]
      by_cases h0 : x < 0
      · rw [if_pos h0]
      · rw [if_neg h0]
        by_cases hN : nI N < x
        · rw [if_pos hN]
        · rw [if_neg hN, if_neg (fun z => hx ⟨?_, z⟩)]
          rw [i32_lt, c32_0] at h0
          rw [i32_lt, nI_toInt (by omega)] at hN
          exact ⟨by omega, by omega⟩
    rw [e1]
    unfold fX12_weeks
    rw [e2, p_bd, if_pos rfl]
    exact eq2_st h _ _ rfl rfl
end wm
