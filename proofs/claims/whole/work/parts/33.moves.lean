/-! ===== LETTERS and LAWS that move: take, sway ===== -/
theorem wf_w {g g' : Nat → Nat → Int32} {n : Nat} (hw : wfV g) (h : ∀ j, j < 7 ∨ 13 ≤ j → g' j = g j) (hn : n ≤ 12) (h7 : g' 7 0 = nI n) (hl : ∀ k, k < n → letOk g (g' 8 k) (g' 9 k) (g' 10 k) (g' 11 k)) : wfV g' := by
  have e0 := h 0 (by omega)
  have hS : cS g' = cS g := by unfold cS; rw [e0]
  have hH : cH g' = cH g := by unfold cH; rw [e0]
  have hP : cP g' = cP g := by unfold cP; rw [e0]
  have hL : cL g' = cL g := by unfold cL; rw [e0]
  have hW : cW g' = n := by unfold cW; rw [h7, nI_clamp (by omega)]
  have hC : cC g' = cC g := by unfold cC; rw [h 13 (by omega)]
  obtain ⟨⟨n1, n2, n3, n4, n5, n6⟩, b2, b3, b4, b5, b6, b7, b8, b9, b10, b11⟩ := hw
  refine ⟨⟨by rw [hS, e0]; exact n1, by rw [hH, e0]; exact n2, by rw [hP, e0]; exact n3, by rw [hL, e0]; exact n4, by rw [hW]; exact ⟨h7, hn⟩, by rw [hC, h 13 (by omega)]; exact n6⟩, by rw [e0]; exact b2, by rw [e0]; exact b3, by rw [e0]; exact b4, fun l hl => ?_, fun p hp => ?_, fun p s hp hs => ?_, fun p s hp hs => ?_, fun k hk => ?_, fun k hk => ?_, ?_⟩
  · unfold lawOk; rw [hS, hH, hP, h 4 (by omega)]; exact b5 l (by rw [← hL]; exact hl)
  · rw [hH, h 3 (by omega)]; exact b6 p (by rw [← hP]; exact hp)
  · rw [hP, h 5 (by omega), h 6 (by omega)]; exact b7 p s (by rw [← hP]; exact hp) (by rw [← hS]; exact hs)
  · rw [h 5 (by omega), h 6 (by omega)]; exact b8 p s (by rw [← hP]; exact hp) (by rw [← hS]; exact hs)
  · have := hl k (by rw [← hW]; exact hk)
    unfold letOk at this ⊢
    rw [hP, hH]; exact this
  · unfold letOk; rw [hP, hH, hS, h 14 (by omega), h 15 (by omega), h 16 (by omega), h 17 (by omega), h 18 (by omega)]; exact b10 k (by rw [← hC]; exact hk)
  · unfold cntOk; rw [hS, h 1 (by omega), h 2 (by omega), e0, ssum_c (g := g) (g' := g') (fun k _ => by rw [h 2 (by omega)]) _ n1.2]; exact b11
theorem vR_w {g g' : Nat → Nat → Int32} {a a' : Nat → Int32} {n : Nat} (hw : wfN g) (hr : vR g a) (h : ∀ j, j < 7 ∨ 13 ≤ j → g' j = g j) (hn : n ≤ 12) (h7 : g' 7 0 = nI n) (ha : ∀ k, k ≠ 4 → k < 151 ∨ 199 ≤ k → k < 259 → a' k = a k) (ha4 : a' 4 = nI n) (hl : ∀ k w, k < n → w < 4 → a' (151 + 4 * k + w) = g' (8 + w) k) : vR g' a' := by
  have e0 := h 0 (by omega)
  have hS : cS g' = cS g := by unfold cS; rw [e0]
  have hP : cP g' = cP g := by unfold cP; rw [e0]
  have hL : cL g' = cL g := by unfold cL; rw [e0]
  have hW : cW g' = n := by unfold cW; rw [h7, nI_clamp (by omega)]
  have hC : cC g' = cC g := by unfold cC; rw [h 13 (by omega)]
  obtain ⟨⟨c0, c1, c2, c3, c4, c5, c6, c7, c8, c9, c10, c11⟩, d2, d3, d4, d5, d6, d7⟩ := hr
  obtain ⟨⟨-, b1⟩, ⟨-, b2⟩, ⟨-, b3⟩, ⟨-, b4⟩, ⟨-, b5⟩, ⟨-, b6⟩⟩ := hw
  refine ⟨⟨?_, ?_, ?_, ?_, ?_, ?_, ?_, ?_, ?_, ?_, ?_, ?_⟩, fun k hk => ?_, fun p hp => ?_, fun l w hl hw => ?_, fun p s hp hs => ?_, fun k w hk hw => ?_, fun k w hk hw => ?_⟩
  · rw [ha 0 (by omega) (by omega) (by omega), e0]; exact c0
  · rw [ha 1 (by omega) (by omega) (by omega), e0]; exact c1
  · rw [ha 2 (by omega) (by omega) (by omega), e0]; exact c2
  · rw [ha 3 (by omega) (by omega) (by omega), e0]; exact c3
  · rw [ha4]; exact h7.symm
  · rw [ha 5 (by omega) (by omega) (by omega), h 13 (by omega)]; exact c5
  · rw [ha 6 (by omega) (by omega) (by omega), e0]; exact c6
  · rw [ha 7 (by omega) (by omega) (by omega), e0]; exact c7
  · rw [ha 8 (by omega) (by omega) (by omega), e0]; exact c8
  · rw [ha 9 (by omega) (by omega) (by omega), e0]; exact c9
  · rw [ha 10 (by omega) (by omega) (by omega), e0]; exact c10
  · rw [ha 11 (by omega) (by omega) (by omega), hS, wsum_c (g := g) (g' := g') (fun k _ => by rw [h 1 (by omega)]) (fun k _ => by rw [h 2 (by omega)]) _ b1]; exact c11
  · rw [hS] at hk
    rw [ha _ (by omega) (by omega) (by omega), ha _ (by omega) (by omega) (by omega), h 1 (by omega), h 2 (by omega)]; exact d2 k hk
  · rw [hP] at hp
    rw [ha _ (by omega) (by omega) (by omega), h 3 (by omega)]; exact d3 p hp
  · rw [hL] at hl
    rw [ha _ (by omega) (by omega) (by omega), h 4 (by omega)]; exact d4 l w hl hw
  · rw [hP] at hp
    rw [hS] at hs
    rw [ha _ (by omega) (by omega) (by omega), ha _ (by omega) (by omega) (by omega), h 5 (by omega), h 6 (by omega)]; exact d5 p s hp hs
  · rw [hW] at hk
    exact hl k w hk hw
  · rw [hC] at hk
    rw [ha _ (by omega) (by omega) (by omega), h (14 + w) (by omega)]; exact d7 k w hk hw
theorem wf_l {g g' : Nat → Nat → Int32} (hw : wfV g) (h : ∀ j, j ≠ 4 → g' j = g j) (hl : ∀ q, q < cL g → ∃ q', q' < cL g ∧ ∀ i, i < 6 → g' 4 (6 * q + i) = g 4 (6 * q' + i)) : wfV g' := by
  have e0 := h 0 (by omega)
  have hS : cS g' = cS g := by unfold cS; rw [e0]
  have hH : cH g' = cH g := by unfold cH; rw [e0]
  have hP : cP g' = cP g := by unfold cP; rw [e0]
  have hL : cL g' = cL g := by unfold cL; rw [e0]
  have hW : cW g' = cW g := by unfold cW; rw [h 7 (by omega)]
  have hC : cC g' = cC g := by unfold cC; rw [h 13 (by omega)]
  obtain ⟨⟨n1, n2, n3, n4, n5, n6⟩, b2, b3, b4, b5, b6, b7, b8, b9, b10, b11⟩ := hw
  refine ⟨⟨by rw [hS, e0]; exact n1, by rw [hH, e0]; exact n2, by rw [hP, e0]; exact n3, by rw [hL, e0]; exact n4, by rw [hW, h 7 (by omega)]; exact n5, by rw [hC, h 13 (by omega)]; exact n6⟩, by rw [e0]; exact b2, by rw [e0]; exact b3, by rw [e0]; exact b4, fun l hl9 => ?_, fun p hp => ?_, fun p s hp hs => ?_, fun p s hp hs => ?_, fun k hk => ?_, fun k hk => ?_, ?_⟩
  · obtain ⟨q, hq, e⟩ := hl l (by rw [← hL]; exact hl9)
    have e0' := e 0 (by omega)
    rw [Nat.add_zero, Nat.add_zero] at e0'
    unfold lawOk; rw [hS, hH, hP, e0', e 1 (by omega), e 2 (by omega), e 3 (by omega), e 4 (by omega), e 5 (by omega)]; exact b5 q hq
  · rw [hH, h 3 (by omega)]; exact b6 p (by rw [← hP]; exact hp)
  · rw [hP, h 5 (by omega), h 6 (by omega)]; exact b7 p s (by rw [← hP]; exact hp) (by rw [← hS]; exact hs)
  · rw [h 5 (by omega), h 6 (by omega)]; exact b8 p s (by rw [← hP]; exact hp) (by rw [← hS]; exact hs)
  · unfold letOk; rw [hP, hH, h 8 (by omega), h 9 (by omega), h 10 (by omega), h 11 (by omega)]; exact b9 k (by rw [← hW]; exact hk)
  · unfold letOk; rw [hP, hH, hS, h 14 (by omega), h 15 (by omega), h 16 (by omega), h 17 (by omega), h 18 (by omega)]; exact b10 k (by rw [← hC]; exact hk)
  · unfold cntOk; rw [hS, h 1 (by omega), h 2 (by omega), e0, ssum_c (g := g) (g' := g') (fun k _ => by rw [h 2 (by omega)]) _ n1.2]; exact b11
theorem vR_l {g g' : Nat → Nat → Int32} {a a' : Nat → Int32} (hw : wfN g) (hr : vR g a) (h : ∀ j, j ≠ 4 → g' j = g j) (ha : ∀ k, k < 31 ∨ 79 ≤ k → k < 259 → a' k = a k) (hl : ∀ q w, q < cL g → w < 6 → a' (31 + 6 * q + w) = g' 4 (6 * q + w)) : vR g' a' := by
  have e0 := h 0 (by omega)
  have hS : cS g' = cS g := by unfold cS; rw [e0]
  have hP : cP g' = cP g := by unfold cP; rw [e0]
  have hL : cL g' = cL g := by unfold cL; rw [e0]
  have hW : cW g' = cW g := by unfold cW; rw [h 7 (by omega)]
  have hC : cC g' = cC g := by unfold cC; rw [h 13 (by omega)]
  obtain ⟨⟨c0, c1, c2, c3, c4, c5, c6, c7, c8, c9, c10, c11⟩, d2, d3, d4, d5, d6, d7⟩ := hr
  obtain ⟨⟨-, b1⟩, ⟨-, b2⟩, ⟨-, b3⟩, ⟨-, b4⟩, ⟨-, b5⟩, ⟨-, b6⟩⟩ := hw
  refine ⟨⟨?_, ?_, ?_, ?_, ?_, ?_, ?_, ?_, ?_, ?_, ?_, ?_⟩, fun k hk => ?_, fun p hp => ?_, fun l w hl9 hw => ?_, fun p s hp hs => ?_, fun k w hk hw => ?_, fun k w hk hw => ?_⟩
  · rw [ha 0 (by omega) (by omega), e0]; exact c0
  · rw [ha 1 (by omega) (by omega), e0]; exact c1
  · rw [ha 2 (by omega) (by omega), e0]; exact c2
  · rw [ha 3 (by omega) (by omega), e0]; exact c3
  · rw [ha 4 (by omega) (by omega), h 7 (by omega)]; exact c4
  · rw [ha 5 (by omega) (by omega), h 13 (by omega)]; exact c5
  · rw [ha 6 (by omega) (by omega), e0]; exact c6
  · rw [ha 7 (by omega) (by omega), e0]; exact c7
  · rw [ha 8 (by omega) (by omega), e0]; exact c8
  · rw [ha 9 (by omega) (by omega), e0]; exact c9
  · rw [ha 10 (by omega) (by omega), e0]; exact c10
  · rw [ha 11 (by omega) (by omega), hS, wsum_c (g := g) (g' := g') (fun k _ => by rw [h 1 (by omega)]) (fun k _ => by rw [h 2 (by omega)]) _ b1]; exact c11
  · rw [hS] at hk
    rw [ha _ (by omega) (by omega), ha _ (by omega) (by omega), h 1 (by omega), h 2 (by omega)]; exact d2 k hk
  · rw [hP] at hp
    rw [ha _ (by omega) (by omega), h 3 (by omega)]; exact d3 p hp
  · rw [hL] at hl9
    exact hl l w hl9 hw
  · rw [hP] at hp
    rw [hS] at hs
    rw [ha _ (by omega) (by omega), ha _ (by omega) (by omega), h 5 (by omega), h 6 (by omega)]; exact d5 p s hp hs
  · rw [hW] at hk
    rw [ha _ (by omega) (by omega), h (8 + w) (by omega)]; exact d6 k w hk hw
  · rw [hC] at hk
    rw [ha _ (by omega) (by omega), h (14 + w) (by omega)]; exact d7 k w hk hw
theorem e1_drop {w n k : Nat} (hw : kdC w = .inl 1) (μ : o_Mem) (hn : μ.1 w 0 = nI n) (hk : k < n) (h12 : n ≤ 12) : ∃ m, fX1_dropAt rfC w (nI k) μ = some ((), m) ∧ (∀ i, i < w ∨ w + 5 < i → m.1 i = μ.1 i) ∧ m.2 = μ.2 ∧ m.1 w 0 = nI (n - 1) ∧ ∀ j q, 1 ≤ j → j ≤ 5 → m.1 (w + j) q = if k ≤ q ∧ q + 1 < n then μ.1 (w + j) (q + 1) else μ.1 (w + j) q := by
  have r1 : rfC w 1 = w + 1 := rf1 hw 1
  have r2 : rfC w 2 = w + 2 := rf1 hw 2
  have r3 : rfC w 3 = w + 3 := rf1 hw 3
  have r4 : rfC w 4 = w + 4 := rf1 hw 4
  have r5 : rfC w 5 = w + 5 := rf1 hw 5
  obtain ⟨f1, m1, q1, rfl, i1, i2, i3, i4⟩ := lp_one (h := 4) (s := fX1_dropAt_s4 rfC w)
    (fun i τ m => ∃ r, r + 1 + i = n ∧ k ≤ r ∧ τ = nI (r + 1) ∧ (∀ i, i < w ∨ w + 5 < i → m.1 i = μ.1 i) ∧ m.2 = μ.2 ∧ m.1 w 0 = nI n ∧ ∀ j q, 1 ≤ j → j ≤ 5 → m.1 (w + j) q = if k ≤ q ∧ q < r then μ.1 (w + j) (q + 1) else μ.1 (w + j) q)
    (fun f m => f = (88, 0) ∧ (∀ i, i < w ∨ w + 5 < i → m.1 i = μ.1 i) ∧ m.2 = μ.2 ∧ m.1 w 0 = nI n ∧ ∀ j q, 1 ≤ j → j ≤ 5 → m.1 (w + j) q = if k ≤ q ∧ q + 1 < n then μ.1 (w + j) (q + 1) else μ.1 (w + j) q)
    (fun i τ m hR => by
      obtain ⟨r, hr, hkr, rfl, i1, i2, i3, i4⟩ := hR
      unfold fX1_dropAt_s4
      rw [i3]
      by_cases hi : i = 0
      · rw [if_pos (show nI n ≤ nI (r + 1) by rw [n_le (by omega) (by omega)]; omega)]
        refine ⟨_, _, rfl, Or.inr ⟨by decide, rfl, i1, i2, i3, fun j q h1 h5 => ?_⟩⟩
        rw [i4 j q h1 h5, show r = n - 1 by omega]
        by_cases e : k ≤ q ∧ q + 1 < n
        · rw [if_pos e, if_pos (by omega)]
        · rw [if_neg e, if_neg (by omega)]
      · rw [if_neg (show ¬ nI n ≤ nI (r + 1) by rw [n_le (by omega) (by omega)]; omega)]
        simp (disch := omega) only [r1, r2, r3, r4, r5, nI_pred, nI_toInt, nI_clamp, p_ck, p_seq, p_wI_o, aR_1]
        refine ⟨_, _, rfl, Or.inl ⟨rfl, i - 1, by omega, r + 1, by omega, by omega, rfl, fun i hi => ?_, i2, ?_, fun j q h1 h5 => ?_⟩⟩
        · rw [p_wI_o (by omega), p_wI_o (by omega), p_wI_o (by omega), p_wI_o (by omega), p_wI_o (by omega)]; exact i1 i hi
        · rw [p_wI_o (by omega), p_wI_o (by omega), p_wI_o (by omega), p_wI_o (by omega), p_wI_o (by omega)]; exact i3
        · have hq : ∀ x : Int32, x = m.1 (w + j) (r + 1) → (if q = r then x else m.1 (w + j) q) = if k ≤ q ∧ q < r + 1 then μ.1 (w + j) (q + 1) else μ.1 (w + j) q := fun x hx => by
            by_cases e : q = r
            · subst e
              rw [if_pos rfl, if_pos (by omega), hx, i4 j _ h1 h5, if_neg (by omega)]
            · rw [if_neg e, i4 j q h1 h5]
              by_cases e2 : k ≤ q ∧ q < r
              · rw [if_pos e2, if_pos (by omega)]
              · rw [if_neg e2, if_neg (by omega)]
          rw [← hq _ rfl]
          rcases (show j = 1 ∨ j = 2 ∨ j = 3 ∨ j = 4 ∨ j = 5 by omega) with rfl | rfl | rfl | rfl | rfl
          · rw [p_wI_o (by omega), p_wI_o (by omega), p_wI_o (by omega), p_wI_o (by omega), p_wI1]
            by_cases e : q = r
            · rw [if_pos ⟨rfl, e⟩, if_pos e]
            · rw [if_neg (fun z => e z.2), if_neg e]
          · rw [p_wI_o (by omega), p_wI_o (by omega), p_wI_o (by omega), p_wI1]
            by_cases e : q = r
            · rw [if_pos ⟨rfl, e⟩, if_pos e]
            · rw [if_neg (fun z => e z.2), if_neg e, p_wI_o (by omega)]
          · rw [p_wI_o (by omega), p_wI_o (by omega), p_wI1]
            by_cases e : q = r
            · rw [if_pos ⟨rfl, e⟩, if_pos e]
            · rw [if_neg (fun z => e z.2), if_neg e, p_wI_o (by omega), p_wI_o (by omega)]
          · rw [p_wI_o (by omega), p_wI1]
            by_cases e : q = r
            · rw [if_pos ⟨rfl, e⟩, if_pos e]
            · rw [if_neg (fun z => e z.2), if_neg e, p_wI_o (by omega), p_wI_o (by omega), p_wI_o (by omega)]
          · rw [p_wI1]
            by_cases e : q = r
            · rw [if_pos ⟨rfl, e⟩, if_pos e]
            · rw [if_neg (fun z => e z.2), if_neg e, p_wI_o (by omega), p_wI_o (by omega), p_wI_o (by omega), p_wI_o (by omega)])
    o_fuel (n - 1 - k) (nI (k + 1)) μ (fu (by omega)) ⟨k, by omega, Nat.le_refl _, rfl, fun _ _ => rfl, rfl, hn, fun j q _ _ => by rw [if_neg (by omega)]⟩
  unfold fX1_dropAt
  obtain ⟨n', rfl⟩ : ∃ n', n = n' + 1 := ⟨n - 1, by omega⟩
  rw [aR_1, q1, p_bd, if_pos rfl, p_seq, i3, nI_pred]
  refine ⟨_, rfl, fun i hi => by rw [p_wI_o (by omega)]; exact i1 i hi, i2, by rw [p_wI1, if_pos ⟨rfl, rfl⟩]; rfl, fun j q h1 h5 => by rw [p_wI_o (by omega)]; exact i4 j q h1 h5⟩
section tk
variable {μC μM : o_Mem}
theorem take_lp {k : Nat} (hk : k < 12) (μ : o_Mem) : ∃ m, o_lp 19 (fX12_take_s19 rfM 0) o_fuel (nI (151 + 4 * k)) μ = some ((48, 0), m) ∧ (∀ i, i ≠ 1 → m.1 i = μ.1 i) ∧ m.2 = μ.2 ∧ ∀ j, m.1 1 j = if 151 + 4 * k ≤ j ∧ j < 195 then μ.1 1 (j + 4) else μ.1 1 j := by
  obtain ⟨m, e1, e2, e3, e4⟩ := lp_inv (head := 19) (e := 48) (step := fX12_take_s19 rfM 0) (fun p m => (∀ i, i ≠ 1 → m.1 i = μ.1 i) ∧ m.2 = μ.2 ∧ ∀ j, m.1 1 j = if 151 + 4 * k ≤ j ∧ j < p then μ.1 1 (j + 4) else μ.1 1 j) (N := 195) (k0 := 151 + 4 * k)
    (fun p m hp hp2 ⟨i1, i2, i3⟩ => by
      unfold fX12_take_s19 fX12_letterRow
      rw [p_bd, if_neg (show ¬ (151 : Int32) + 4 * 11 ≤ nI p by rw [show (151 : Int32) + 4 * 11 = nI 195 from rfl, n_le (by omega) (by omega)]; omega)]
      simp (disch := omega) only [qm_0, aR_4, nI_toInt, nI_clamp, p_ck, p_seq, aR_1]
      refine ⟨_, rfl, fun i hi => by rw [p_wI_o hi]; exact i1 i hi, i2, fun j => ?_⟩
      rw [p_wI1, i3, i3 j]
      by_cases ej : j = p
      · subst ej
        rw [if_pos ⟨rfl, rfl⟩, if_neg (by omega), if_pos (by omega)]
      · rw [if_neg (fun z => ej z.2)]
        by_cases e9 : 151 + 4 * k ≤ j ∧ j < p
        · rw [if_pos e9, if_pos (by omega)]
        · rw [if_neg e9, if_neg (by omega)])
    (fun m _ => by unfold fX12_take_s19 fX12_letterRow; rw [p_bd, if_pos (by decide)]) (by decide) (195 - (151 + 4 * k)) (151 + 4 * k) μ (by omega) (by omega) ⟨fun _ _ => rfl, rfl, fun j => by rw [if_neg (by omega)]⟩
  exact ⟨m, p_lp e1 (by omega), e2, e3, e4⟩
theorem pu_take (h : Inv μC μM) (x : Int32) : o_Eq2 (fX11_take rfC 0 x μC) (fX12_take rfM 0 x μM) Inv := by
  obtain ⟨hw, hr⟩ := Inv_v h
  have b := hw.1.2.2.2.2.1.2
  have e : μC.1 17 0 = nI (cW (bV μC 10)) := hw.1.2.2.2.2.1.1
  have e' : μM.1 1 4 = nI (cW (bV μC 10)) := hr.1.2.2.2.2.1.trans hw.1.2.2.2.2.1.1
  unfold fX11_take fX12_take fX12_letterRow
  simp only [rc0_4, rc10_15, e11_within, e12_isLetter hw.1 hr, p_bd, bI_if, e11_refuses, e12_refuse, i64_of, c64_0, e, nI_sub1 (show cW (bV μC 10) < 2 ^ 30 by omega)]
  by_cases hx : rg x (cW (bV μC 10))
  · rw [if_pos (show 0 ≤ x.toInt ∧ x.toInt ≤ (cW (bV μC 10) : Int) - 1 by omega), if_pos hx]
    obtain ⟨k, hk, hk2, rfl⟩ := rg_nI hx
    obtain ⟨n', hn'⟩ : ∃ n', cW (bV μC 10) = n' + 1 := ⟨cW (bV μC 10) - 1, by omega⟩
    obtain ⟨m1, q1, q2, q3, q4, q5⟩ := e1_drop k17 μC e hk b
    obtain ⟨m2, p1, p2, p3, p4⟩ := take_lp (k := k) (by omega) μM
    rw [hn'] at q4
    rw [show n' + 1 - 1 = n' by omega] at q4
    rw [q1, p_bd, q4, e11_gives, p_bd, mL_4, aL_151, p1, p_bd, if_pos rfl, qm_0, p_seq, p4, if_neg (by omega), e', hn', nI_pred, e12_gives, p_bd, show (o_wI m2 1 4 (nI n')).1 1 4 = nI n' from rfl]
    have g9 : ∀ j, j < 7 ∨ 13 ≤ j → bV m1 10 j = bV μC 10 j := fun j hj => by
      funext q
      show m1.1 (10 + j) q = μC.1 (10 + j) q
      rw [q2 _ (by omega)]
    have g7 : bV m1 10 7 0 = nI n' := q4
    have gl : ∀ w q, w < 4 → bV m1 10 (8 + w) q = if k ≤ q ∧ q + 1 < n' + 1 then bV μC 10 (8 + w) (q + 1) else bV μC 10 (8 + w) q := fun w q hw4 => by
      have := q5 (1 + w) q (by omega) (by omega)
      rw [hn', show 17 + (1 + w) = 10 + (8 + w) by omega] at this
      exact this
    refine ⟨nI n', _, _, rfl, rfl, Inv_st 0 (Inv_val h (fun i hi => q2 i (by omega)) q3 (fun i hi => by rw [p_wI_o hi, p2 i hi]) p3 (fun i hi => ?_) ?_ ?_ ?_ ?_ ?_)⟩
    · show (o_wI m2 1 4 (nI n')).1 1 i = _
      rw [p_wI1, if_neg (by omega), p4, if_neg (by omega)]
    · unfold cS; rw [g9 0 (by omega)]
    · unfold cH; rw [g9 0 (by omega)]
    · unfold cP; rw [g9 0 (by omega)]
    · refine wf_w hw g9 (n := n') (by omega) g7 (fun q hq => ?_)
      have h0 := gl 0 q (by omega)
      have h1 := gl 1 q (by omega)
      have h2 := gl 2 q (by omega)
      have h3 := gl 3 q (by omega)
      by_cases e9 : k ≤ q ∧ q + 1 < n' + 1
      · rw [if_pos e9] at h0 h1 h2 h3
        rw [show bV m1 10 8 q = _ from h0, show bV m1 10 9 q = _ from h1, show bV m1 10 10 q = _ from h2, show bV m1 10 11 q = _ from h3]
        exact hw.2.2.2.2.2.2.2.2.1 (q + 1) (by omega)
      · rw [if_neg e9] at h0 h1 h2 h3
        rw [show bV m1 10 8 q = _ from h0, show bV m1 10 9 q = _ from h1, show bV m1 10 10 q = _ from h2, show bV m1 10 11 q = _ from h3]
        exact hw.2.2.2.2.2.2.2.2.1 q (by omega)
    · refine vR_w hw.1 hr g9 (n := n') (by omega) g7 (fun q h4 hq hq2 => ?_) rfl (fun q w hq hw4 => ?_)
      · rw [p_wI1, if_neg (fun z => h4 z.2), p4, if_neg (by omega)]
      · rw [p_wI1, if_neg (by omega), p4, gl w q hw4]
        by_cases e9 : k ≤ q
        · rw [if_pos (by omega), if_pos (by omega), show 151 + 4 * q + w + 4 = 151 + 4 * (q + 1) + w by omega]
          exact hr.2.2.2.2.2.1 (q + 1) w (by omega) hw4
        · rw [if_neg (by omega), if_neg (by omega)]
          exact hr.2.2.2.2.2.1 q w (by omega) hw4
  · rw [if_neg (show ¬ (0 ≤ x.toInt ∧ x.toInt ≤ (cW (bV μC 10) : Int) - 1) by omega), if_neg hx]; exact eq2_st h _ _ rfl rfl
def swp (f : Nat → Int32) (b k : Nat) : Nat → Int32 := fun j => if b ≤ j ∧ j < b + k then f (j + 6) else if b + 6 ≤ j ∧ j < b + 6 + k then f (j - 6) else f j
theorem swp_s (f : Nat → Int32) {b k : Nat} (hk : k < 6) : upd (upd (swp f b k) (b + k) (swp f b k (b + k + 6))) (b + k + 6) (swp f b k (b + k)) = swp f b (k + 1) := by
  funext j
  have e1 : swp f b k (b + k + 6) = f (b + k + 6) := by unfold swp; rw [if_neg (by omega), if_neg (by omega)]
  have e2 : swp f b k (b + k) = f (b + k) := by unfold swp; rw [if_neg (by omega), if_neg (by omega)]
  rw [e1, e2]
  by_cases h1 : j = b + k + 6
  · subst h1
    rw [u_s]
    unfold swp
    rw [if_neg (by omega), if_pos (by omega)]
    exact congrArg f (by omega)
  · rw [u_ne h1]
    by_cases h2 : j = b + k
    · subst h2
      rw [u_s]
      unfold swp
      rw [if_pos (by omega)]
    · rw [u_ne h2]
      unfold swp
      by_cases h3 : b ≤ j ∧ j < b + k
      · rw [if_pos h3, if_pos (by omega)]
      · rw [if_neg h3]
        by_cases h4 : b + 6 ≤ j ∧ j < b + 6 + k
        · rw [if_pos h4, if_neg (by omega), if_pos (by omega)]
        · rw [if_neg h4, if_neg (by omega), if_neg (by omega)]
theorem swp_1 {f : Nat → Int32} {b j : Nat} (h : b ≤ j ∧ j < b + 6) : swp f b 6 j = f (j + 6) := by unfold swp; rw [if_pos h]
theorem swp_2 {f : Nat → Int32} {b j : Nat} (h : b + 6 ≤ j ∧ j < b + 6 + 6) : swp f b 6 j = f (j - 6) := by unfold swp; rw [if_neg (by omega), if_pos h]
theorem swp_3 {f : Nat → Int32} {b j : Nat} (h : j < b ∨ b + 6 + 6 ≤ j) : swp f b 6 j = f j := by unfold swp; rw [if_neg (by omega), if_neg (by omega)]
theorem e8_swap {l : Nat} (hl : l < 7) (μ : o_Mem) : ∃ m, fX8_swapLaws rfC 10 (nI l) (nI (l + 1)) μ = some ((), m) ∧ (∀ i, i ≠ 14 → m.1 i = μ.1 i) ∧ m.2 = μ.2 ∧ m.1 14 = swp (μ.1 14) (6 * l) 6 := by
  obtain ⟨m, e1, e2, e3, e4⟩ := lp_inv (head := 2) (e := 62) (step := fX8_swapLaws_s2 rfC 10 (nI l) (nI (l + 1))) (fun k m => (∀ i, i ≠ 14 → m.1 i = μ.1 i) ∧ m.2 = μ.2 ∧ m.1 14 = swp (μ.1 14) (6 * l) k) (N := 6) (k0 := 0)
    (fun k m _ hk ⟨i1, i2, i3⟩ => by
      unfold fX8_swapLaws_s2
      rw [if_neg (show ¬ (6 : Int32) ≤ nI k by rw [show (6 : Int32) = nI 6 from rfl, n_le (by omega) (by omega)]; omega)]
      simp (disch := omega) only [rc10_12, mR_6, nI_add', nI_toInt, nI_clamp, p_ck, p_seq, aR_1]
      refine ⟨_, rfl, fun i hi => by rw [p_wI_o hi, p_wI_o hi]; exact i1 i hi, i2, ?_⟩
      rw [← swp_s (μ.1 14) hk, i3, show l * 6 + k = 6 * l + k by omega, show (l + 1) * 6 + k = 6 * l + k + 6 by omega]
      show upd (upd (m.1 14) _ _) _ _ = _
      rw [i3])
    (fun m _ => by unfold fX8_swapLaws_s2; rw [if_pos (by decide)]) (by decide) 6 0 μ (by omega) (by omega) ⟨fun _ _ => rfl, rfl, by funext j; unfold swp; rw [if_neg (by omega), if_neg (by omega)]⟩
  refine ⟨m, ?_, e2, e3, e4⟩
  unfold fX8_swapLaws
  rw [show o_lp 2 (fX8_swapLaws_s2 rfC 10 (nI l) (nI (l + 1))) o_fuel 0 μ = _ from p_lp e1 (by omega), p_bd, if_pos rfl]
theorem sway_lp {l : Nat} (hl : l < 7) (μ : o_Mem) : ∃ m, o_lp 29 (fX12_sway_s29 rfM 0 (nI l)) o_fuel (nI (31 + 6 * l)) μ = some ((77, 0), m) ∧ (∀ i, i ≠ 1 → m.1 i = μ.1 i) ∧ m.2 = μ.2 ∧ m.1 1 = swp (μ.1 1) (31 + 6 * l) 6 := by
  obtain ⟨m, e1, e2, e3, e4⟩ := lp_inv (head := 29) (e := 77) (step := fX12_sway_s29 rfM 0 (nI l)) (fun k m => (∀ i, i ≠ 1 → m.1 i = μ.1 i) ∧ m.2 = μ.2 ∧ m.1 1 = swp (μ.1 1) (31 + 6 * l) (k - (31 + 6 * l))) (N := 31 + 6 * l + 6) (k0 := 31 + 6 * l)
    (fun k m hk0 hk ⟨i1, i2, i3⟩ => by
      unfold fX12_sway_s29 fX12_lawRow
      rw [aR_1, mL_6, aL_31, p_bd, if_neg (show ¬ nI (31 + 6 * (l + 1)) ≤ nI k by rw [n_le (by omega) (by omega)]; omega)]
      simp (disch := omega) only [qm_0, aR_6, nI_toInt, nI_clamp, p_ck, p_seq, aR_1]
      refine ⟨_, rfl, fun i hi => by rw [p_wI_o hi, p_wI_o hi]; exact i1 i hi, i2, ?_⟩
      have hs := swp_s (μ.1 1) (b := 31 + 6 * l) (k := k - (31 + 6 * l)) (by omega)
      rw [show 31 + 6 * l + (k - (31 + 6 * l)) = k by omega, show k - (31 + 6 * l) + 1 = k + 1 - (31 + 6 * l) by omega] at hs
      rw [← hs, i3]
      show upd (upd (m.1 1) _ _) _ _ = _
      rw [i3])
    (fun m _ => by unfold fX12_sway_s29 fX12_lawRow; rw [aR_1, mL_6, aL_31, p_bd, if_pos (by rw [n_le (by omega) (by omega)]; omega)]) (by decide) 6 (31 + 6 * l) μ (by omega) (by omega) ⟨fun _ _ => rfl, rfl, by funext j; unfold swp; rw [if_neg (by omega), if_neg (by omega)]⟩
  rw [show 31 + 6 * l + 6 - (31 + 6 * l) = 6 by omega] at e4
  exact ⟨m, p_lp e1 (by omega), e2, e3, e4⟩
theorem pu_sway (h : Inv μC μM) (x : Int32) : o_Eq2 (fX11_sway rfC 0 x μC) (fX12_sway rfM 0 x μM) Inv := by
  obtain ⟨hw, hr⟩ := Inv_v h
  have b := hw.1.2.2.2.1.2
  have e : μC.1 10 3 = nI (cL (bV μC 10)) := hw.1.2.2.2.1.1
  unfold fX11_sway fX12_sway fX12_sway_j18 fX12_lawRow
  simp only [rc0_4, e11_within, e12_isLaw hw.1 hr, p_bd, bI_if, ends_1, is_1, i64_of, c64_0, e, show (nI (cL (bV μC 10)) - 2).toInt = (cL (bV μC 10) : Int) - 2 from pk_sub_toInt (b := 2) (by omega) (by omega)]
  by_cases hx : rg x (cL (bV μC 10))
  · rw [if_pos hx]
    obtain ⟨l, hl, hl2, rfl⟩ := rg_nI hx
    rw [aR_1, nI_toInt hl2]
    by_cases hx2 : l + 1 < cL (bV μC 10)
    · rw [if_pos (show (0 : Int) ≤ (l : Int) ∧ (l : Int) ≤ (cL (bV μC 10) : Int) - 2 by omega), if_pos (show 0 ≤ (nI (l + 1)).toInt ∧ (nI (l + 1)).toInt < (cL (bV μC 10) : Int) by rw [nI_toInt (by omega)]; omega)]
      obtain ⟨m1, q1, q2, q3, q4⟩ := e8_swap (l := l) (by omega) μC
      obtain ⟨m2, p1, p2, p3, p4⟩ := sway_lp (l := l) (by omega) μM
      rw [q1, p_bd, ends_0, p_bd, mL_6, aL_31, p1, p_bd, if_pos rfl, is_0, p_bd]
      have g9 : ∀ j, j ≠ 4 → bV m1 10 j = bV μC 10 j := fun j hj => by
        funext q
        show m1.1 (10 + j) q = μC.1 (10 + j) q
        rw [q2 _ (by omega)]
      have g4 : bV m1 10 4 = swp (bV μC 10 4) (6 * l) 6 := q4
      refine ⟨1, _, _, rfl, rfl, Inv_st 0 (Inv_val h (fun i hi => q2 i (by omega)) q3 p2 p3 (fun i hi => ?_) ?_ ?_ ?_ ?_ ?_)⟩
      · rw [p4, swp_3 (by omega)]
      · unfold cS; rw [g9 0 (by omega)]
      · unfold cH; rw [g9 0 (by omega)]
      · unfold cP; rw [g9 0 (by omega)]
      · refine wf_l hw g9 (fun q hq => ⟨if q = l then l + 1 else if q = l + 1 then l else q, by split <;> (try split) <;> omega, fun i hi => ?_⟩)
        rw [g4]
        by_cases e1 : q = l
        · rw [swp_1 (by omega), if_pos e1]
          exact congrArg (bV μC 10 4) (by omega)
        · rw [if_neg e1]
          by_cases e2 : q = l + 1
          · rw [swp_2 (by omega), if_pos e2]
            exact congrArg (bV μC 10 4) (by omega)
          · rw [swp_3 (by omega), if_neg e2]
      · refine vR_l hw.1 hr g9 (fun k hk hk2 => ?_) (fun q w hq hw6 => ?_)
        · rw [p4, swp_3 (by omega)]
        · rw [p4, g4]
          by_cases e1 : q = l
          · rw [swp_1 (by omega), swp_1 (by omega), show 31 + 6 * q + w + 6 = 31 + 6 * (q + 1) + w by omega, show 6 * q + w + 6 = 6 * (q + 1) + w by omega]
            exact hr.2.2.2.1 (q + 1) w (by omega) hw6
          · by_cases e2 : q = l + 1
            · rw [swp_2 (by omega), swp_2 (by omega), show 31 + 6 * q + w - 6 = 31 + 6 * l + w by omega, show 6 * q + w - 6 = 6 * l + w by omega]
              exact hr.2.2.2.1 l w (by omega) hw6
            · rw [swp_3 (by omega), swp_3 (by omega)]
              exact hr.2.2.2.1 q w hq hw6
    · rw [if_neg (show ¬ ((0 : Int) ≤ (l : Int) ∧ (l : Int) ≤ (cL (bV μC 10) : Int) - 2) by omega), if_neg (show ¬ (0 ≤ (nI (l + 1)).toInt ∧ (nI (l + 1)).toInt < (cL (bV μC 10) : Int)) by rw [nI_toInt (by omega)]; omega)]
      exact eq2_st h _ _ rfl rfl
  · rw [if_neg (show ¬ (0 ≤ x.toInt ∧ x.toInt ≤ (cL (bV μC 10) : Int) - 2) by omega), if_neg hx]; exact eq2_st h _ _ rfl rfl
end tk
