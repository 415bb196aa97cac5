/-! ===== valley ===== -/
/-- an empty VALLEY in the class -/
theorem e8_clear {v : Nat} (hv : kdC v = .inl 8) (m : o_Mem) : ∃ m', fX8_clear rfC v m = some ((), m') ∧ (∀ i, i < v ∨ v + 20 ≤ i → m'.1 i = m.1 i) ∧ m'.2 = m.2 ∧ (∀ k, k < 9 → m'.1 v k = if k = 4 then 4 else 0) ∧ (∀ k, k < 6 → m'.1 (v + 2) k = 0) ∧ (∀ k, k < 36 → m'.1 (v + 5) k = -1) ∧ (∀ k, k < 36 → m'.1 (v + 6) k = -1) ∧ m'.1 (v + 7) 0 = 0 ∧ m'.1 (v + 13) 0 = 0 := by
  have r10 : rfC v 10 = v + 2 := by rw [rf8 hv]; rfl
  have r13 : rfC v 13 = v + 5 := by rw [rf8 hv]; rfl
  have r14 : rfC v 14 = v + 6 := by rw [rf8 hv]; rfl
  have r15 : rfC v 15 = v + 7 := by rw [rf8 hv]; rfl
  have r16 : rfC v 16 = v + 13 := by rw [rf8 hv]; rfl
  unfold fX8_clear
  rw [r10, r13, r14, r15, r16]
  simp only [p_seq]
  generalize hA : o_wI (o_wI (o_wI (o_wI (o_wI (o_wI (o_wI (o_wI (o_wI m v 0 0) v 1 0) v 2 0) v 3 0) v 4 4) v 5 0) v 6 0) v 7 0) v 8 0 = A
  have A1 : ∀ i, i ≠ v → A.1 i = m.1 i := fun i hi => by rw [← hA, p_wI_o hi, p_wI_o hi, p_wI_o hi, p_wI_o hi, p_wI_o hi, p_wI_o hi, p_wI_o hi, p_wI_o hi, p_wI_o hi]
  have A2 : A.2 = m.2 := by rw [← hA]; rfl
  have A3 : ∀ k, k < 9 → A.1 v k = if k = 4 then 4 else 0 := fun k hk => by
    rw [← hA]
    simp only [p_wI1]
    rcases (show k = 0 ∨ k = 1 ∨ k = 2 ∨ k = 3 ∨ k = 4 ∨ k = 5 ∨ k = 6 ∨ k = 7 ∨ k = 8 by omega) with rfl | rfl | rfl | rfl | rfl | rfl | rfl | rfl | rfl <;> simp
  generalize hB : o_sI A (v + 2) (o_fill (A.1 (v + 2)) 6 0) = B
  have B1 : ∀ i, i ≠ v + 2 → B.1 i = A.1 i := fun i hi => by rw [← hB]; funext j; rw [p_sI1, if_neg hi]
  have B2 : ∀ k, k < 6 → B.1 (v + 2) k = 0 := fun k hk => by
    rw [← hB, p_sI1, if_pos rfl]
    show (if k < 6 then (0 : Int32) else A.1 (v + 2) k) = 0
    rw [if_pos hk]
  generalize hC : o_sI B (v + 5) (o_fill (B.1 (v + 5)) 36 (-1)) = C
  have C1 : ∀ i, i ≠ v + 5 → C.1 i = B.1 i := fun i hi => by rw [← hC]; funext j; rw [p_sI1, if_neg hi]
  have C2 : ∀ k, k < 36 → C.1 (v + 5) k = -1 := fun k hk => by
    rw [← hC, p_sI1, if_pos rfl]
    show (if k < 36 then (-1 : Int32) else B.1 (v + 5) k) = -1
    rw [if_pos hk]
  generalize hD : o_sI C (v + 6) (o_fill (C.1 (v + 6)) 36 (-1)) = D
  have D1 : ∀ i, i ≠ v + 6 → D.1 i = C.1 i := fun i hi => by rw [← hD]; funext j; rw [p_sI1, if_neg hi]
  have D2 : ∀ k, k < 36 → D.1 (v + 6) k = -1 := fun k hk => by
    rw [← hD, p_sI1, if_pos rfl]
    show (if k < 36 then (-1 : Int32) else C.1 (v + 6) k) = -1
    rw [if_pos hk]
  refine ⟨_, rfl, fun i hi => ?_, ?_, fun k hk => ?_, fun k hk => ?_, fun k hk => ?_, fun k hk => ?_, ?_, ?_⟩
  · rw [p_wI_o (by omega), p_wI_o (by omega), D1 i (by omega), C1 i (by omega), B1 i (by omega), A1 i (by omega)]
  · show D.2 = m.2
    rw [← hD, p_sI2, ← hC, p_sI2, ← hB, p_sI2, A2]
  · rw [p_wI_o (by omega), p_wI_o (by omega), D1 v (by omega), C1 v (by omega), B1 v (by omega)]; exact A3 k hk
  · rw [p_wI_o (by omega), p_wI_o (by omega), D1 _ (by omega), C1 _ (by omega)]; exact B2 k hk
  · rw [p_wI_o (by omega), p_wI_o (by omega), D1 _ (by omega)]; exact C2 k hk
  · rw [p_wI_o (by omega), p_wI_o (by omega)]; exact D2 k hk
  · rw [p_wI_o (by omega), p_wI1, if_pos ⟨rfl, rfl⟩]
  · rw [p_wI1, if_pos ⟨rfl, rfl⟩]
/-- both empty: nothing is read yet -/
theorem nx_0 {g : Nat → Nat → Int32} {a : Nat → Int32} {x y : Nat → Int64} (h0 : ∀ k, k < 9 → g 0 k = if k = 4 then 4 else 0) (h2 : ∀ k, k < 6 → g 2 k = 0) (h5 : ∀ k, k < 36 → g 5 k = -1) (h6 : ∀ k, k < 36 → g 6 k = -1) (h7 : g 7 0 = 0) (h13 : g 13 0 = 0) (ha : ∀ k, k < 626 → a k = pl0 k) : nwX 0 0 0 0 0 g a x y := by
  refine ⟨⟨h0 0 (by omega), h0 1 (by omega), h0 2 (by omega), h0 3 (by omega), h7, h13, by omega⟩, ⟨by rw [h0 4 (by omega)]; decide, h0 5 (by omega), h0 6 (by omega), h0 7 (by omega), h0 8 (by omega)⟩, ⟨ha 0 (by omega), ha 1 (by omega), ha 2 (by omega), ha 3 (by omega), ha 4 (by omega), ha 5 (by omega), (ha 6 (by omega)).trans (h0 4 (by omega)).symm, ha 7 (by omega), ha 8 (by omega), ha 9 (by omega), ha 10 (by omega), ha 11 (by omega), ha 12 (by omega)⟩, fun k hk => by omega, fun k hk => ⟨h2 k hk, ?_⟩, fun k hk => by omega, fun k hk => by omega, fun k j _ hk hj => ?_, fun c hc => Or.inl ⟨h5 c hc, h6 c hc, ?_⟩, fun k hk => by omega, fun k hk => by omega, fun k hk => by omega, fun k hk => by omega⟩
  · rw [ha _ (by omega)]
    unfold pl0
    rw [if_neg (by omega), if_neg (by omega), if_neg (by omega), if_neg (by omega)]
  · rw [ha _ (by omega)]
    unfold pl0
    rw [if_neg (by omega), if_neg (by omega), if_pos (by omega)]
  · rw [ha _ (by omega)]
    unfold pl0
    rw [if_neg (by omega), if_neg (by omega), if_neg (by omega), if_pos (by omega)]
section vf
variable {μC μM : o_Mem}
/-- after a TEXT -/
theorem Inv_tx {m1 m2 : o_Mem} (h : Inv μC μM) (c1 : ∀ i, i < 10 ∨ 62 ≤ i → i < 137 → m1.1 i = μC.1 i) (c2 : ∀ i, i < 10 ∨ 62 ≤ i → i < 137 → m1.2 i = μC.2 i) (d0 : ∀ k, k = 2 ∨ k = 38 → m2.1 0 k = μM.1 0 k) (d1 : ∀ i, 3 ≤ i → i ≤ 5 → m2.1 i = μM.1 i) (d2 : ∀ k, 626 ≤ k → k < 2504 → m2.1 1 k = μM.1 1 k) (d3 : m2.2 0 = μM.2 0 ∧ m2.2 5 = μM.2 5) (d4 : ∀ k, 16 ≤ k → k < 64 → m2.2 2 k = μM.2 2 k) (ht : m1.1 137 1 = 0 ∧ m2.1 0 10 = 0) (hf : iFt m1 m2) (hs : slR m1 m2 10 50 0 0) (hl : iLv m1 m2) : Inv m1 m2 := by
  obtain ⟨a1, a2, a3, a4, -, a6, -⟩ := h
  refine ⟨?_, iTr_c (fun i p q => ⟨c1 i (by omega) (by omega), c2 i (by omega) (by omega)⟩) (d1 3 (by omega) (by omega)) (d1 4 (by omega) (by omega)) d3.2 a2, ⟨0, by omega, ht.1, ht.2, fun k hk => by omega⟩, hf, hs, iMk_c (by rw [c1 0 (by omega) (by omega)]) (fun i p q => ⟨c1 i (by omega) (by omega), c2 i (by omega) (by omega)⟩) (d0 38 (by omega)) d2 d4 a6, hl⟩
  unfold iSt at a1 ⊢
  rw [c1 0 (by omega) (by omega), c2 0 (by omega) (by omega), d0 2 (by omega), d3.1]
  exact a1
theorem pu_valley (h : Inv μC μM) (x : Int32) : o_Eq2 (fX11_valley rfC 0 x μC) (fX12_valley rfM 0 x μM) Inv := by
  have hTp := h.2.2.1
  obtain ⟨N, n9, n1, n2, n3⟩ := hTp
  unfold fX11_valley
  simp only [rc0_4, rc0_5, rc0_6, rc0_11, rc0_12, n1, e11_within, p_bd, bI_if, i64_of, c64_0, nI_toInt (show N < 2 ^ 31 by omega)]
  by_cases hx : 0 ≤ x.toInt ∧ x.toInt ≤ N
  · rw [if_pos hx]
    obtain ⟨n, hn, hn2, hxn⟩ := rg_nI (x := x) (n := N + 1) ⟨hx.1, by omega⟩
    obtain ⟨a1, a2, q1, q2, hst, ⟨A1, A2, A3⟩, B1, B2, B3, B4⟩ := w_begin h.2.2.1 (n := n) (lim := 900) hxn ⟨N, by omega, n9, n1⟩ (by omega) (by omega)
    have q2' : fX12_begins rfM 0 x 900 μM = some (1, a2) := q2
    obtain ⟨b1, x1, C1, C2, C3, C4, C5, C6, C7, C8⟩ := e8_clear k30 a1
    obtain ⟨b2, x2, D1, D2, D3⟩ := e12_plain (b := 2504) (by omega) a2
    have x2' : fX12_plain rfM 0 2504 a2 = some ((), b2) := x2
    unfold fX9_accept fX12_valley
    rw [rc139_0, rc139_1, q1, q2', p_bd, p_bd, if_neg (show ¬ (1 : Int32) = 0 by decide), x1, x2', p_bd, p_bd, p_seq, p_seq]
    generalize hc1 : o_wI b1 139 2 0 = c1
    generalize hc2 : o_wI b2 0 20 0 = c2
    -- the start
    have c1o : ∀ i, i < 30 ∨ 50 ≤ i → i ≠ 139 → c1.1 i = a1.1 i := fun i h1 h2 => by rw [← hc1, p_wI_o h2]; exact C1 i h1
    have c1i : ∀ i, i ≠ 139 → c1.1 i = b1.1 i := fun i h2 => by rw [← hc1, p_wI_o h2]
    have c12 : c1.2 = a1.2 := by rw [← hc1]; exact C2
    have c2o : ∀ i, i ≠ 0 → i ≠ 1 → c2.1 i = a2.1 i := fun i h1 h2 => by rw [← hc2, p_wI_o h1]; exact D1 i h2
    have c20 : ∀ k, k ≠ 20 → c2.1 0 k = a2.1 0 k := fun k hk => by rw [← hc2, p_wI1, if_neg (fun z => hk z.2), D1 0 (by omega)]
    have c21 : ∀ k, c2.1 1 k = if 2504 ≤ k ∧ k < 2504 + 626 then pl0 (k - 2504) else a2.1 1 k := fun k => by rw [← hc2, p_wI_o (by omega)]; exact D3 k
    have c22 : c2.2 = a2.2 := by rw [← hc2]; exact D2
    have hst0 : stT (μC.1 138) n c1 c2 := by
      have e1 : c1.1 137 = a1.1 137 := c1o 137 (by omega) (by omega)
      have e2 : c1.1 138 = a1.1 138 := c1o 138 (by omega) (by omega)
      have e7 : c2.1 7 = a2.1 7 := c2o 7 (by omega) (by omega)
      unfold stT txR tok ns at hst ⊢
      rw [e1, e2, e7, c12, c20 11 (by omega), c20 12 (by omega), c20 13 (by omega), c20 14 (by omega), c20 15 (by omega), c20 17 (by omega), c20 18 (by omega)]
      exact hst
    have hnw0 : nwS 0 0 0 0 0 c1 c2 := by
      refine nx_0 (fun k hk => ?_) (fun k hk => ?_) (fun k hk => ?_) (fun k hk => ?_) ?_ ?_ (fun k hk => ?_)
      · show c1.1 (30 + 0) k = _; rw [c1i _ (by omega)]; exact C3 k hk
      · show c1.1 (30 + 2) k = _; rw [c1i _ (by omega)]; exact C4 k hk
      · show c1.1 (30 + 5) k = _; rw [c1i _ (by omega)]; exact C5 k hk
      · show c1.1 (30 + 6) k = _; rw [c1i _ (by omega)]; exact C6 k hk
      · show c1.1 (30 + 7) 0 = _; rw [c1i _ (by omega)]; exact C7
      · show c1.1 (30 + 13) 0 = _; rw [c1i _ (by omega)]; exact C8
      · show c2.1 1 (2504 + k) = _; rw [c21, if_pos (by omega), show 2504 + k - 2504 = k by omega]
    have hpv0 : pV (o_wI c1 137 6 0) c2 c1 c2 := by
      refine ⟨⟨fun i _ h2 _ => by rw [p_wI_o h2], fun k hk => by rw [p_wI1, if_neg (by omega)], fun i _ _ => rfl⟩, ⟨fun _ _ _ => rfl, fun _ _ => rfl, fun _ _ => rfl, fun _ _ => rfl, fun _ _ => rfl⟩, ?_, ?_⟩
      · rw [← hc1, ← hc2, p_wI1, if_pos ⟨rfl, rfl⟩, p_wI1, if_pos ⟨rfl, rfl⟩]
      · rw [p_wI1, if_pos ⟨rfl, rfl⟩]
        obtain ⟨a, q, haq, hqn, h6, -⟩ := hst0.2.1
        rw [h6, nI_toInt (by omega)]
        show (0 : Int32).toInt ≤ (a : Int)
        rw [c32_0]
        omega
    obtain ⟨r, d1, d2, y1, y2, hpv, hr⟩ := vy_loop ⟨hst0, hnw0, hpv0⟩ (by rw [p_wI1, if_pos ⟨rfl, rfl⟩]; decide)
    rw [y1, y2, p_bd, p_bd, if_pos rfl, if_pos rfl]
    obtain ⟨⟨v1, v2, v3⟩, ⟨v4, v5, v6, v7, v8⟩, -⟩ := hpv
    -- what is as it was
    have f1 : ∀ i, i < 30 ∨ 50 ≤ i → i ≠ 137 → i ≠ 139 → d1.1 i = μC.1 i := fun i h1 h2 h3 => by rw [v1 i h1 h2 h3, p_wI_o h2, c1o i h1 h3, A1 i h2]
    have f2 : ∀ i, i < 30 ∨ 50 ≤ i → i ≠ 137 → d1.2 i = μC.2 i := fun i h1 h2 => by rw [v3 i h1 h2, p_wI2, c12, A3 i h2]
    have f3 : d1.1 137 1 = 0 := by rw [v2 1 (by omega), p_wI1, if_neg (by omega), c1o 137 (by omega) (by omega)]; exact A2
    have g1 : ∀ i, i ≠ 0 → i ≠ 1 → i ≠ 7 → d2.1 i = μM.1 i := fun i h1 h2 h3 => by rw [v4 i h1 h2, c2o i h1 h2, B1 i h1 h3]
    have g2 : ∀ k, k < 10 ∨ k = 16 ∨ 21 ≤ k → d2.1 0 k = μM.1 0 k := fun k hk => by rw [v5 k (by omega), c20 k (by omega), B2 k (by omega)]
    have g3 : d2.1 0 10 = 0 := by rw [v5 10 (by omega), c20 10 (by omega)]; exact B3
    have g4 : ∀ k, k < 2504 → d2.1 1 k = μM.1 1 k := fun k hk => by rw [v6 k (by omega), c21, if_neg (by omega), B1 1 (by omega) (by omega)]
    have g5 : ∀ i, i ≠ 2 → d2.2 i = μM.2 i := fun i hi => by rw [v7 i hi, c22, B4]
    have g6 : ∀ k, k < 64 → d2.2 2 k = μM.2 2 k := fun k hk => by rw [v8 k (by omega), c22, B4]
    have hLv := h.2.2.2.2.2.2
    rcases hr with ⟨rfl, s, hh, p, l, w, hv⟩ | ⟨rfl, y, yl, y7, z1, z2, z3⟩
    · -- it is taken
      obtain ⟨hst1, hnw1, -⟩ := hv
      obtain ⟨hw, hvr, hnr⟩ := nx_ok hnw1
      obtain ⟨ns1, ns2, ns3, ns4⟩ := hst1.2.2
      rw [p_ck _ (Or.inr rfl), p_bd, if_neg (show ¬ (1 : Int32) = 0 by decide)]
      obtain ⟨e1, w1, E1, E2, E3⟩ := e8_copy k10 k30 ⟨k17, k23, k37, k43⟩ (by omega) d1 hw.2.2.2.1
      unfold fX3_clear fX12_valley_j50 fX12_valley_j117 fX12_taken
      rw [w1, p_bd, ns3, if_pos rfl]
      simp only [p_seq, p_bd, e11_gives]
      -- the reference's copies
      obtain ⟨t1, k3, y3, rfl, G1, G2, G3⟩ := lp_one (h := 59) (s := fX12_valley_s59 rfM 0)
        (fun i τ μ => ∃ k, k + i = 626 ∧ τ = nI k ∧ (∀ i, i ≠ 1 → μ.1 i = d2.1 i) ∧ μ.2 = d2.2 ∧ ∀ j, μ.1 1 j = if j < k then d2.1 1 (2504 + j) else d2.1 1 j)
        (fun e μ => e = (88, 0) ∧ (∀ i, i ≠ 1 → μ.1 i = d2.1 i) ∧ μ.2 = d2.2 ∧ ∀ j, μ.1 1 j = if j < 626 then d2.1 1 (2504 + j) else d2.1 1 j)
        (fun i τ μ hR => by
          obtain ⟨k, hk, rfl, h1, h2, h3⟩ := hR
          unfold fX12_valley_s59
          rw [qm_0, show (626 : Int32) = nI 626 from rfl]
          by_cases hi : i = 0
          · rw [if_pos ((n_le (by omega) (by omega)).mpr (by omega))]
            exact ⟨_, _, rfl, Or.inr ⟨show ¬ 88 = 59 by decide, rfl, h1, h2, fun j => by rw [h3 j, show k = 626 by omega]⟩⟩
          · rw [if_neg (fun z => by rw [n_le (by omega) (by omega)] at z; omega)]
            simp (disch := omega) only [aL_2504, nI_toInt, nI_clamp, p_ck, p_seq, aR_1]
            refine ⟨_, _, rfl, Or.inl ⟨rfl, i - 1, by omega, k + 1, by omega, rfl, fun i hi => by rw [p_wI_o hi]; exact h1 i hi, h2, fun j => ?_⟩⟩
            rw [p_wI1]
            by_cases e : j = k
            · rw [if_pos ⟨rfl, e⟩, if_pos (by omega), h3, if_neg (by omega), e]
            · rw [if_neg (fun z => e z.2), h3 j]
              by_cases e2 : j < k
              · rw [if_pos e2, if_pos (by omega)]
              · rw [if_neg e2, if_neg (by omega)])
        o_fuel 626 0 d2 (fu (by omega)) ⟨0, by omega, rfl, fun i _ => rfl, rfl, fun j => by rw [if_neg (by omega)]⟩
      rw [y3, p_bd, if_pos rfl]
      obtain ⟨t2, k4, y4, rfl, H1, H2, H3⟩ := lp_one (h := 90) (s := fX12_valley_s90 rfM 0)
        (fun i τ μ => ∃ k, k + i = 16 ∧ τ = nI k ∧ μ.1 = k3.1 ∧ (∀ i, i ≠ 2 → μ.2 i = d2.2 i) ∧ ∀ j, μ.2 2 j = if j < k then d2.2 2 (64 + j) else d2.2 2 j)
        (fun e μ => e = (117, 0) ∧ μ.1 = k3.1 ∧ (∀ i, i ≠ 2 → μ.2 i = d2.2 i) ∧ ∀ j, μ.2 2 j = if j < 16 then d2.2 2 (64 + j) else d2.2 2 j)
        (fun i τ μ hR => by
          obtain ⟨k, hk, rfl, h1, h2, h3⟩ := hR
          unfold fX12_valley_s90
          rw [qm_1, show (16 : Int32) = nI 16 from rfl]
          by_cases hi : i = 0
          · rw [if_pos ((n_le (by omega) (by omega)).mpr (by omega))]
            exact ⟨_, _, rfl, Or.inr ⟨show ¬ 117 = 90 by decide, rfl, h1, h2, fun j => by rw [h3 j, show k = 16 by omega]⟩⟩
          · rw [if_neg (fun z => by rw [n_le (by omega) (by omega)] at z; omega)]
            simp (disch := omega) only [aL_64, nI_toInt, nI_clamp, p_ck, p_seq, aR_1]
            refine ⟨_, _, rfl, Or.inl ⟨rfl, i - 1, by omega, k + 1, by omega, rfl, h1, fun i hi => by funext q; rw [p_wL2, if_neg (fun z => hi z.1), h2 i hi], fun j => ?_⟩⟩
            rw [p_wL2]
            by_cases e : j = k
            · rw [if_pos ⟨rfl, e⟩, if_pos (by omega), h3, if_neg (by omega), e]
            · rw [if_neg (fun z => e z.2), h3 j]
              by_cases e2 : j < k
              · rw [if_pos e2, if_pos (by omega)]
              · rw [if_neg e2, if_neg (by omega)])
        o_fuel 16 0 k3 (fu (by omega)) ⟨0, by omega, rfl, rfl, fun i _ => by rw [G2], fun j => by rw [if_neg (by omega), G2]⟩
      rw [y4, p_bd, if_pos rfl]
      have k40 : ∀ k, k4.1 0 k = d2.1 0 k := fun k => by rw [H1, G1 0 (by omega)]
      have k41 : ∀ k, k < 626 → k4.1 1 k = d2.1 1 (2504 + k) := fun k hk => by rw [H1, G3, if_pos hk]
      rw [k40 18, ns3, show (o_wI k4 0 16 0).1 0 18 = 0 by rw [p_wI1, if_neg (by omega), k40 18]; exact ns3, if_pos (by decide), e12_gives, p_bd, p_bd, qm_0]
      generalize hF1 : o_wI (o_wI (o_wI e1 50 0 0) 50 1 0) 50 2 0 = F1
      generalize hF2 : o_wI k4 0 16 0 = F2
      have F1o : ∀ i, i ≠ 50 → F1.1 i = e1.1 i := fun i hi => by rw [← hF1, p_wI_o hi, p_wI_o hi, p_wI_o hi]
      have F12 : F1.2 = e1.2 := by rw [← hF1]; rfl
      have F150 : F1.1 50 0 = 0 := by rw [← hF1, p_wI1, if_neg (by omega), p_wI1, if_neg (by omega), p_wI1, if_pos ⟨rfl, rfl⟩]
      have F2o : ∀ i, i ≠ 0 → F2.1 i = k4.1 i := fun i hi => by rw [← hF2, p_wI_o hi]
      have F20 : ∀ k, k ≠ 16 → F2.1 0 k = d2.1 0 k := fun k hk => by rw [← hF2, p_wI1, if_neg (fun z => hk z.2), k40]
      have F216 : F2.1 0 16 = 0 := by rw [← hF2, p_wI1, if_pos ⟨rfl, rfl⟩]
      have F22 : F2.2 = k4.2 := by rw [← hF2]; rfl
      have hc : ∀ j k, j < 19 → k < capV j → bV F1 10 j k = bV d1 30 j k := fun j k hj hk => by
        show F1.1 (10 + j) k = d1.1 (30 + j) k
        rw [F1o _ (by omega)]
        exact E2 j k hj hk
      have hans : F1.1 10 3 = k4.1 1 3 := by
        rw [show F1.1 10 3 = bV d1 30 0 3 from hc 0 3 (by omega) (by decide), k41 3 (by omega)]
        exact hvr.1.2.2.2.1.symm
      rw [hans]
      obtain ⟨e01, e02, e03, -⟩ := cN_cap hc
      refine ⟨_, _, _, rfl, rfl, Inv_st 0 (Inv_tx h (fun i h1 h2 => by rw [F1o i (by omega), (E1 i (by omega)).1, f1 i (by omega) (by omega) (by omega)]) (fun i h1 h2 => by rw [F12, (E1 i (by omega)).2, f2 i (by omega) (by omega)]) (fun k hk => by rw [F20 k (by omega), g2 k (by omega)]) (fun i h1 h2 => by rw [F2o i (by omega), H1, G1 i (by omega), g1 i (by omega) (by omega) (by omega)]) (fun k h1 h2 => by rw [F2o 1 (by omega), H1, G3, if_neg (by omega), g4 k (by omega)]) ⟨by rw [F22, H2 0 (by omega), g5 0 (by omega)], by rw [F22, H2 5 (by omega), g5 5 (by omega)]⟩ (fun k h1 h2 => by rw [F22, H3, if_neg (by omega), g6 k (by omega)]) ⟨?_, ?_⟩ ⟨?_, ?_⟩ ⟨wfV_cap hc hw, ?_, ?_, Or.inl ⟨F150, ?_⟩⟩ ?_)⟩
      · rw [F1o 137 (by omega), (E1 137 (by omega)).1]; exact f3
      · rw [F20 10 (by omega)]; exact g3
      · rw [F1o 137 (by omega), (E1 137 (by omega)).1, ns1, F216]
      · rw [F1o 137 (by omega), (E1 137 (by omega)).1, ns2, F20 17 (by omega), ns4]
      · rw [mS_0]
        refine vR_cap hc (fun k hk => ?_) hw.1 hvr
        rw [F2o 1 (by omega), k41 k (by omega)]
        rfl
      · unfold nR at hnr ⊢
        have bS := hw.1.1.2
        have bH := hw.1.2.1.2
        have bP := hw.1.2.2.1.2
        rw [e01, e02, e03]
        refine ⟨fun k hk => ?_, fun k hk => ?_, fun k hk => ?_⟩
        · show nmR (F1.2 (10 + 19) k) (F2.2 2 (0 + k))
          rw [F12, E3 k (by omega), F22, H3, if_pos (by omega), show 64 + (0 + k) = 64 + k by omega]
          exact hnr.1 k hk
        · show nmR (F1.2 (10 + 19) (6 + k)) (F2.2 2 (0 + (6 + k)))
          rw [F12, E3 _ (by omega), F22, H3, if_pos (by omega), show 64 + (0 + (6 + k)) = 64 + (6 + k) by omega]
          exact hnr.2.1 k hk
        · show nmR (F1.2 (10 + 19) (12 + k)) (F2.2 2 (0 + (10 + k)))
          rw [F12, E3 _ (by omega), F22, H3, if_pos (by omega), show 64 + (0 + (10 + k)) = 64 + (10 + k) by omega]
          exact hnr.2.2 k hk
      · show F2.1 1 (0 + 12) = -1
        rw [F2o 1 (by omega), k41 _ (by omega)]
        exact hnw1.2.2.1.2.2.2.2.2.2.2.2.2.2.2.2
      · unfold iLv at hLv ⊢
        rw [F1o 144 (by omega), (E1 144 (by omega)).1, f1 144 (by omega) (by omega) (by omega), F20 37 (by omega), g2 37 (by omega), F2o 18 (by omega), H1, G1 18 (by omega), g1 18 (by omega) (by omega) (by omega)]
        exact hLv
    · -- a fault
      rw [p_ck _ (Or.inl rfl), p_bd, if_pos rfl]
      unfold fX12_valley_j50 fX12_valley_j117 fX12_taken
      have hy0 : ¬ d2.1 0 18 = 0 := by rw [z2, show (0 : Int32) = nI 0 from rfl, nI_inj (by omega) (by omega)]; omega
      rw [if_neg hy0, p_seq, show (o_wI d2 0 16 (d2.1 0 18)).1 0 18 = nI y by rw [p_wI1, if_neg (by omega)]; exact z2, if_neg (show ¬ nI y ≤ 0 by rw [show (0 : Int32) = nI 0 from rfl, n_le (by omega) (by omega)]; omega), e12_refuse, e11_refuses, z2]
      refine ⟨_, _, _, rfl, rfl, Inv_st 9 (Inv_tx h (fun i h1 h2 => f1 i (by omega) (by omega) (by omega)) (fun i h1 h2 => f2 i (by omega) (by omega)) (fun k hk => by rw [p_wI1, if_neg (by omega), g2 k (by omega)]) (fun i h1 h2 => by rw [p_wI_o (by omega), g1 i (by omega) (by omega) (by omega)]) (fun k h1 h2 => by rw [p_wI_o (by omega), g4 k (by omega)]) ⟨g5 0 (by omega), g5 5 (by omega)⟩ (fun k h1 h2 => g6 k (by omega)) ⟨f3, by rw [p_wI1, if_neg (by omega)]; exact g3⟩ ⟨?_, ?_⟩ (slR_c (fun i h1 h2 => ⟨f1 i (by omega) (by omega) (by omega), f2 i (by omega) (by omega)⟩) (fun i h1 h2 => f1 i (by omega) (by omega) (by omega)) (fun k h1 h2 => by rw [p_wI_o (by omega)]; exact g4 k (by omega)) (fun k h1 h2 => g6 k (by omega)) h.2.2.2.2.1) ?_)⟩
      · rw [z1, p_wI1, if_pos ⟨rfl, rfl⟩]
      · rw [z3, p_wI1, if_neg (by omega)]
      · unfold iLv at hLv ⊢
        rw [f1 144 (by omega) (by omega) (by omega), p_wI1, if_neg (by omega), g2 37 (by omega), p_wI_o (by omega), g1 18 (by omega) (by omega) (by omega)]
        exact hLv
  · rw [if_neg hx]
    unfold fX12_valley fX12_begins
    rw [n2]
    by_cases h0 : x < 0
    · rw [if_pos h0, p_bd, if_pos rfl]; exact eq2_st h _ _ rfl rfl
    · rw [if_neg h0, if_pos (show nI N < x by
        rw [i32_lt, c32_0] at h0
        rw [i32_lt, nI_toInt (by omega)]
        omega), p_bd, if_pos rfl]
      exact eq2_st h _ _ rfl rfl
end vf
