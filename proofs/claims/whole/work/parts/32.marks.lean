/-! ===== marks: mark, undo ===== -/
section cap
variable {g g' : Nat → Nat → Int32} {a a' : Nat → Int32}
theorem cN_cap (h : ∀ j k, j < 19 → k < capV j → g' j k = g j k) : cS g' = cS g ∧ cH g' = cH g ∧ cP g' = cP g ∧ cL g' = cL g ∧ cW g' = cW g ∧ cC g' = cC g := by
  have e0 : ∀ k, k < 9 → g' 0 k = g 0 k := fun k hk => h 0 k (by omega) hk
  refine ⟨?_, ?_, ?_, ?_, ?_, ?_⟩
  · unfold cS; rw [e0 0 (by omega)]
  · unfold cH; rw [e0 1 (by omega)]
  · unfold cP; rw [e0 2 (by omega)]
  · unfold cL; rw [e0 3 (by omega)]
  · unfold cW; rw [h 7 0 (by omega) (by decide)]
  · unfold cC; rw [h 13 0 (by omega) (by decide)]
theorem wfV_cap (h : ∀ j k, j < 19 → k < capV j → g' j k = g j k) (hw : wfV g) : wfV g' := by
  have e0 : ∀ k, k < 9 → g' 0 k = g 0 k := fun k hk => h 0 k (by omega) hk
  have r1 : ∀ k, k < 6 → g' 1 k = g 1 k := fun k hk => h 1 k (by omega) hk
  have r2 : ∀ k, k < 6 → g' 2 k = g 2 k := fun k hk => h 2 k (by omega) hk
  have r3 : ∀ k, k < 6 → g' 3 k = g 3 k := fun k hk => h 3 k (by omega) hk
  have r4 : ∀ k, k < 48 → g' 4 k = g 4 k := fun k hk => h 4 k (by omega) hk
  have r5 : ∀ k, k < 36 → g' 5 k = g 5 k := fun k hk => h 5 k (by omega) hk
  have r6 : ∀ k, k < 36 → g' 6 k = g 6 k := fun k hk => h 6 k (by omega) hk
  have r8 : ∀ k, k < 12 → g' 8 k = g 8 k := fun k hk => h 8 k (by omega) hk
  have r9 : ∀ k, k < 12 → g' 9 k = g 9 k := fun k hk => h 9 k (by omega) hk
  have r10 : ∀ k, k < 12 → g' 10 k = g 10 k := fun k hk => h 10 k (by omega) hk
  have r11 : ∀ k, k < 12 → g' 11 k = g 11 k := fun k hk => h 11 k (by omega) hk
  have r14 : ∀ k, k < 12 → g' 14 k = g 14 k := fun k hk => h 14 k (by omega) hk
  have r15 : ∀ k, k < 12 → g' 15 k = g 15 k := fun k hk => h 15 k (by omega) hk
  have r16 : ∀ k, k < 12 → g' 16 k = g 16 k := fun k hk => h 16 k (by omega) hk
  have r17 : ∀ k, k < 12 → g' 17 k = g 17 k := fun k hk => h 17 k (by omega) hk
  have r18 : ∀ k, k < 12 → g' 18 k = g 18 k := fun k hk => h 18 k (by omega) hk
  have e7 : g' 7 0 = g 7 0 := h 7 0 (by omega) (by decide)
  have e13 : g' 13 0 = g 13 0 := h 13 0 (by omega) (by decide)
  obtain ⟨hS, hH, hP, hL, hW, hC⟩ := cN_cap h
  obtain ⟨⟨n1, n2, n3, n4, n5, n6⟩, b2, b3, b4, b5, b6, b7, b8, b9, b10, b11⟩ := hw
  refine ⟨⟨?_, ?_, ?_, ?_, ?_, ?_⟩, ?_, ?_, ?_, fun l hl => ?_, fun p hp => ?_, fun p s hp hs => ?_, fun p s hp hs => ?_, fun k hk => ?_, fun k hk => ?_, fun k hk => ?_, ?_⟩
  · rw [hS, e0 0 (by omega)]; exact n1
  · rw [hH, e0 1 (by omega)]; exact n2
  · rw [hP, e0 2 (by omega)]; exact n3
  · rw [hL, e0 3 (by omega)]; exact n4
  · rw [hW, e7]; exact n5
  · rw [hC, e13]; exact n6
  · rw [e0 4 (by omega)]; exact b2
  · rw [e0 5 (by omega)]; exact b3
  · rw [e0 6 (by omega)]; exact b4
  · rw [hL] at hl
    unfold lawOk
    rw [hS, hH, hP, r4 _ (by omega), r4 _ (by omega), r4 _ (by omega), r4 _ (by omega), r4 _ (by omega), r4 _ (by omega)]
    exact b5 l hl
  · rw [hP] at hp
    rw [hH, r3 p (by omega)]; exact b6 p hp
  · rw [hP] at hp
    rw [hS] at hs
    rw [hP, r5 _ (by omega), r6 _ (by omega)]; exact b7 p s hp hs
  · rw [hP] at hp
    rw [hS] at hs
    rw [r5 _ (by omega), r6 _ (by omega)]; exact b8 p s hp hs
  · rw [hW] at hk
    unfold letOk
    rw [hP, hH, r8 k (by omega), r9 k (by omega), r10 k (by omega), r11 k (by omega)]; exact b9 k hk
  · rw [hC] at hk
    unfold letOk
    rw [hP, hH, hS, r14 k (by omega), r15 k (by omega), r16 k (by omega), r17 k (by omega), r18 k (by omega)]; exact b10 k hk
  · rw [hS] at hk
    rw [r1 k (by omega), r2 k (by omega)]; exact b11.1 k hk
  · rw [hS, ssum_c r2 _ n1.2, e0 5 (by omega)]; exact b11.2
theorem vR_cap (h : ∀ j k, j < 19 → k < capV j → g' j k = g j k) (ha : ∀ k, k < 259 → a' k = a k) (hw : wfN g) (hr : vR g a) : vR g' a' := by
  have e0 : ∀ k, k < 9 → g' 0 k = g 0 k := fun k hk => h 0 k (by omega) hk
  have r1 : ∀ k, k < 6 → g' 1 k = g 1 k := fun k hk => h 1 k (by omega) hk
  have r2 : ∀ k, k < 6 → g' 2 k = g 2 k := fun k hk => h 2 k (by omega) hk
  have r3 : ∀ k, k < 6 → g' 3 k = g 3 k := fun k hk => h 3 k (by omega) hk
  have r4 : ∀ k, k < 48 → g' 4 k = g 4 k := fun k hk => h 4 k (by omega) hk
  have r5 : ∀ k, k < 36 → g' 5 k = g 5 k := fun k hk => h 5 k (by omega) hk
  have r6 : ∀ k, k < 36 → g' 6 k = g 6 k := fun k hk => h 6 k (by omega) hk
  have e7 : g' 7 0 = g 7 0 := h 7 0 (by omega) (by decide)
  have e13 : g' 13 0 = g 13 0 := h 13 0 (by omega) (by decide)
  obtain ⟨hS, hH, hP, hL, hW, hC⟩ := cN_cap h
  obtain ⟨n1, n2, n3, n4, n5, n6⟩ := hw
  obtain ⟨⟨c0, c1, c2, c3, c4, c5, c6, c7, c8, c9, c10, c11⟩, d2, d3, d4, d5, d6, d7⟩ := hr
  refine ⟨⟨?_, ?_, ?_, ?_, ?_, ?_, ?_, ?_, ?_, ?_, ?_, ?_⟩, fun k hk => ?_, fun p hp => ?_, fun l w hl hw => ?_, fun p s hp hs => ?_, fun k w hk hw => ?_, fun k w hk hw => ?_⟩
  · rw [ha 0 (by omega), e0 0 (by omega)]; exact c0
  · rw [ha 1 (by omega), e0 1 (by omega)]; exact c1
  · rw [ha 2 (by omega), e0 2 (by omega)]; exact c2
  · rw [ha 3 (by omega), e0 3 (by omega)]; exact c3
  · rw [ha 4 (by omega), e7]; exact c4
  · rw [ha 5 (by omega), e13]; exact c5
  · rw [ha 6 (by omega), e0 4 (by omega)]; exact c6
  · rw [ha 7 (by omega), e0 5 (by omega)]; exact c7
  · rw [ha 8 (by omega), e0 6 (by omega)]; exact c8
  · rw [ha 9 (by omega), e0 7 (by omega)]; exact c9
  · rw [ha 10 (by omega), e0 8 (by omega)]; exact c10
  · rw [ha 11 (by omega), hS, wsum_c r1 r2 _ n1.2]; exact c11
  · rw [hS] at hk
    have := n1.2
    rw [ha _ (by omega), ha _ (by omega), r1 k (by omega), r2 k (by omega)]; exact d2 k hk
  · rw [hP] at hp
    have := n3.2
    rw [ha _ (by omega), r3 p (by omega)]; exact d3 p hp
  · rw [hL] at hl
    have := n4.2
    rw [ha _ (by omega), r4 _ (by omega)]; exact d4 l w hl hw
  · rw [hP] at hp
    rw [hS] at hs
    have := n1.2
    have := n3.2
    rw [ha _ (by omega), ha _ (by omega), r5 _ (by omega), r6 _ (by omega)]; exact d5 p s hp hs
  · rw [hW] at hk
    have := n5.2
    rw [ha _ (by omega), h (8 + w) k (by omega) (by unfold capV; rw [if_neg (by omega), if_neg (by omega), if_neg (by omega), if_neg (by omega), if_neg (by omega)]; omega)]; exact d6 k w hk hw
  · rw [hC] at hk
    have := n6.2
    rw [ha _ (by omega), h (14 + w) k (by omega) (by unfold capV; rw [if_neg (by omega), if_neg (by omega), if_neg (by omega), if_neg (by omega), if_neg (by omega)]; omega)]; exact d7 k w hk hw
end cap
theorem slR_cap {μC μM μC' μM' : o_Mem} {v p s t v' p' s' t' : Nat} (h1 : ∀ j k, j < 19 → k < capV j → μC'.1 (v' + j) k = μC.1 (v + j) k) (h1n : ∀ k, k < 18 → μC'.2 (v' + 19) k = μC.2 (v + 19) k) (h2 : ∀ k, k < 3 → μC'.1 p' k = μC.1 p k) (h2r : ∀ j k, 1 ≤ j → j ≤ 4 → k < 60 → μC'.1 (p' + j) k = μC.1 (p + j) k) (h3 : ∀ k, k < 626 → μM'.1 1 (s' + k) = μM.1 1 (s + k)) (h4 : ∀ k, k < 16 → μM'.2 2 (t' + k) = μM.2 2 (t + k)) (h : slR μC μM v p s t) : slR μC' μM' v' p' s' t' := by
  obtain ⟨a1, a2, ⟨f1, f2, f3⟩, a4⟩ := h
  have hg : ∀ j k, j < 19 → k < capV j → bV μC' v' j k = bV μC v j k := h1
  obtain ⟨hS, hH, hP, hL, hW, hC⟩ := cN_cap hg
  have n1 := a1.1.1.2
  have n2 := a1.1.2.1.2
  have n3 := a1.1.2.2.1.2
  refine ⟨wfV_cap hg a1, vR_cap hg (fun k hk => h3 k (by omega)) a1.1 a2, ⟨fun k hk => ?_, fun k hk => ?_, fun k hk => ?_⟩, ?_⟩
  · rw [hS] at hk
    rw [h1n k (by omega)]
    show nmR _ (μM'.2 2 (t' + k))
    rw [h4 k (by omega)]
    exact f1 k hk
  · rw [hH] at hk
    rw [h1n (6 + k) (by omega)]
    show nmR _ (μM'.2 2 (t' + (6 + k)))
    rw [h4 (6 + k) (by omega)]
    exact f2 k hk
  · rw [hP] at hk
    rw [h1n (12 + k) (by omega)]
    show nmR _ (μM'.2 2 (t' + (10 + k)))
    rw [h4 (10 + k) (by omega)]
    exact f3 k hk
  · have e0 : bV μC' p' 0 0 = bV μC p 0 0 := h2 0 (by omega)
    have e2 : bV μC' p' 0 2 = bV μC p 0 2 := h2 2 (by omega)
    have er : ∀ j k, 1 ≤ j → j ≤ 4 → k < 60 → bV μC' p' j k = bV μC p j k := h2r
    have ea : ∀ k, k < 626 → mS μM' s' k = mS μM s k := h3
    unfold pR at a4 ⊢
    rw [e0, e2, ea 12 (by omega)]
    rcases a4 with a4 | ⟨q1, n, q2, q3, q4, q5, q6, q7, q8⟩
    · exact Or.inl a4
    · refine Or.inr ⟨q1, n, q2, q3, q4, fun k hk => ?_, fun k hk z => ?_, fun k hk z => ?_, fun k o hk z hko ho zo => ?_⟩
      · rw [er 1 k (by omega) (by omega) (by omega), er 2 k (by omega) (by omega) (by omega), er 3 k (by omega) (by omega) (by omega), er 4 k (by omega) (by omega) (by omega)]
        exact rowR_c hS hP (fun j hj => ea _ (by omega)) (q5 k hk)
      · rw [er 1 k (by omega) (by omega) (by omega)] at z
        obtain ⟨o, o1, o2, o3, o4⟩ := q6 k hk z
        exact ⟨o, o1, by rw [er 4 k (by omega) (by omega) (by omega)]; exact o2, by rw [er 1 o (by omega) (by omega) (by omega)]; exact o3, by rw [er 4 o (by omega) (by omega) (by omega)]; exact o4⟩
      · rw [er 1 k (by omega) (by omega) (by omega)] at z
        obtain ⟨o, o1, o2, o3, o4, o5⟩ := q7 k hk z
        exact ⟨o, o1, o2, by rw [er 4 k (by omega) (by omega) (by omega)]; exact o3, by rw [er 1 o (by omega) (by omega) (by omega)]; exact o4, by rw [er 4 o (by omega) (by omega) (by omega)]; exact o5⟩
      · rw [er 1 k (by omega) (by omega) (by omega)] at z
        rw [er 4 k (by omega) (by omega) (by omega)] at ho ⊢
        obtain ⟨e, e1, e2, e3, e4, e5⟩ := q7 k hk z
        have ho' := ho
        rw [e3, nI_clamp (by omega)] at ho'
        rw [er 1 o (by omega) (by omega) (by omega)] at zo
        rw [er 4 o (by omega) (by omega) (by omega)]
        exact q8 k o hk z hko ho zo
theorem mL_16 (a : Nat) : 16 * nI a = nI (16 * a) := pk_mul 16 a
theorem e12_copies {a b : Nat} (ha : a ≤ 5) (hb : b ≤ 5) (hab : a ≠ b) (μ : o_Mem) : ∃ m, fX12_copies rfM 0 (nI a) (nI b) μ = some ((), m) ∧ (∀ i, i ≠ 1 → m.1 i = μ.1 i) ∧ (∀ i, i ≠ 2 → m.2 i = μ.2 i) ∧ (∀ k, m.1 1 k = if 626 * b ≤ k ∧ k < 626 * b + 626 then μ.1 1 (626 * a + (k - 626 * b)) else μ.1 1 k) ∧ (∀ k, m.2 2 k = if 16 * b ≤ k ∧ k < 16 * b + 16 then μ.2 2 (16 * a + (k - 16 * b)) else μ.2 2 k) := by
  obtain ⟨m1, e1, e2, e3, e4⟩ := lp_inv (head := 2) (e := 39) (step := fX12_copies_s2 rfM 0 (nI a) (nI b)) (fun k m => (∀ i, i ≠ 1 → m.1 i = μ.1 i) ∧ m.2 = μ.2 ∧ ∀ j, m.1 1 j = if 626 * b ≤ j ∧ j < 626 * b + k then μ.1 1 (626 * a + (j - 626 * b)) else μ.1 1 j) (N := 626) (k0 := 0)
    (fun k m _ hk ⟨i1, i2, i3⟩ => by
      unfold fX12_copies_s2
      rw [if_neg (show ¬ (626 : Int32) ≤ nI k by rw [show (626 : Int32) = nI 626 from rfl, n_le (by omega) (by omega)]; omega)]
      simp (disch := omega) only [qm_0, mL_626, nI_add', nI_toInt, nI_clamp, p_ck, p_seq, aR_1]
      refine ⟨_, rfl, fun i hi => by rw [p_wI_o hi]; exact i1 i hi, i2, fun j => ?_⟩
      rw [p_wI1, i3, i3 j]
      by_cases ej : j = 626 * b + k
      · rw [if_pos ⟨rfl, ej⟩, if_neg (by omega), if_pos (by omega)]
        exact congrArg (μ.1 1) (by omega)
      · rw [if_neg (fun z => ej z.2)]
        by_cases e9 : 626 * b ≤ j ∧ j < 626 * b + k
        · rw [if_pos e9, if_pos (by omega)]
        · rw [if_neg e9, if_neg (by omega)])
    (fun m _ => by unfold fX12_copies_s2; rw [if_pos (by decide)]) (by decide) 626 0 μ (by omega) (by omega) ⟨fun _ _ => rfl, rfl, fun j => by rw [if_neg (by omega)]⟩
  obtain ⟨m2, f1, f2, f3, f4⟩ := lp_inv (head := 41) (e := 75) (step := fX12_copies_s41 rfM 0 (nI a) (nI b)) (fun k m => m.1 = m1.1 ∧ (∀ i, i ≠ 2 → m.2 i = μ.2 i) ∧ ∀ j, m.2 2 j = if 16 * b ≤ j ∧ j < 16 * b + k then μ.2 2 (16 * a + (j - 16 * b)) else μ.2 2 j) (N := 16) (k0 := 0)
    (fun k m _ hk ⟨i1, i2, i3⟩ => by
      unfold fX12_copies_s41
      rw [if_neg (show ¬ (16 : Int32) ≤ nI k by rw [show (16 : Int32) = nI 16 from rfl, n_le (by omega) (by omega)]; omega)]
      simp (disch := omega) only [qm_1, mL_16, nI_add', nI_toInt, nI_clamp, p_ck, p_seq, aR_1]
      refine ⟨_, rfl, i1, fun i hi => by rw [p_wL_o hi]; exact i2 i hi, fun j => ?_⟩
      rw [p_wL2, i3, i3 j]
      by_cases ej : j = 16 * b + k
      · rw [if_pos ⟨rfl, ej⟩, if_neg (by omega), if_pos (by omega)]
        exact congrArg (μ.2 2) (by omega)
      · rw [if_neg (fun z => ej z.2)]
        by_cases e9 : 16 * b ≤ j ∧ j < 16 * b + k
        · rw [if_pos e9, if_pos (by omega)]
        · rw [if_neg e9, if_neg (by omega)])
    (fun m _ => by unfold fX12_copies_s41; rw [if_pos (by decide)]) (by decide) 16 0 m1 (by omega) (by omega) ⟨rfl, fun i _ => by rw [e3], fun j => by rw [if_neg (by omega), e3]⟩
  refine ⟨m2, ?_, fun i hi => by rw [f2]; exact e2 i hi, f3, fun k => by rw [f2]; exact e4 k, f4⟩
  unfold fX12_copies
  rw [show o_lp 2 (fX12_copies_s2 rfM 0 (nI a) (nI b)) o_fuel 0 μ = _ from p_lp e1 (by omega), p_bd, if_pos rfl, show o_lp 41 (fX12_copies_s41 rfM 0 (nI a) (nI b)) o_fuel 0 m1 = _ from p_lp f1 (by omega), p_bd, if_pos rfl]
theorem kMk {i : Nat} (hi : i < 3) : kdC (62 + 25 * i) = .inl 8 ∧ kdC (62 + 25 * i + 7) = .inl 1 ∧ kdC (62 + 25 * i + 13) = .inl 1 ∧ kdC (82 + 25 * i) = .inl 3 := by
  rcases (show i = 0 ∨ i = 1 ∨ i = 2 by omega) with rfl | rfl | rfl <;> decide
theorem k50 : kdC 50 = .inl 3 := by decide
theorem rc60 {i : Nat} : rfC 60 i = 62 + 25 * i := rfl
theorem rc61 {i : Nat} : rfC 61 i = 82 + 25 * i := rfl
theorem pR_01 {g pl : Nat → Nat → Int32} {a : Nat → Int32} (h : pR g pl a) : pl 0 0 = 0 ∨ pl 0 0 = 1 := by
  rcases h with h | h
  · exact Or.inl h.1
  · exact Or.inr h.1
section mk
variable {μC μM : o_Mem}
theorem pu_mark (h : Inv μC μM) : o_Eq2 (fX11_mark rfC 0 μC) (fX12_mark rfM 0 μM) Inv := by
  have h0 := h
  obtain ⟨a1, a2, a3, a4, a5, ⟨n, hn, e1, e2, hm⟩, a7⟩ := h
  unfold fX11_mark fX12_mark
  rw [e1, e2, rc0_4, rc0_6, rc0_8, rc0_9]
  by_cases h3 : n = 3
  · subst h3
    rw [if_neg (by decide), if_pos (by decide)]
    exact eq2_st h0 _ _ rfl rfl
  · rw [if_pos (show nI n < 3 by rw [show (3 : Int32) = nI 3 from rfl, n_lt (by omega) (by omega)]; omega), if_neg (show ¬ nI n = 3 by rw [show (3 : Int32) = nI 3 from rfl, nI_inj (by omega) (by omega)]; omega), p_ck _ (by rw [nI_toInt (by omega)]; omega), nI_clamp (by omega), rc60]
    have hk := kMk (show n < 3 by omega)
    obtain ⟨m1, q1, q2, q3, q4⟩ := e8_copy hk.1 k10 ⟨hk.2.1, hk.2.2.1, k17, k23⟩ (by omega) μC a5.1.2.2.2.1
    have e9 : m1.1 0 10 = nI n := by rw [(q2 0 (by omega)).1]; exact e1
    rw [q1, p_bd, e9, p_ck _ (by rw [nI_toInt (by omega)]; omega), nI_clamp (by omega), rc61, e3_copy hk.2.2.2 k50 (by omega) m1 (by rw [(q2 50 (by omega)).1]; exact pR_01 a5.2.2.2), p_bd, p_seq, e11_gives, p_bd, aR_1, p_seq]
    have e10 : (cpP m1 (82 + 25 * n) 50).1 0 10 = nI n := by rw [cpP_o (by omega)]; exact e9
    have e11 : (o_wI μM 0 38 (nI (n + 1))).1 0 38 = nI (n + 1) := rfl
    obtain ⟨m2, p1, p2, p3, p4, p5⟩ := e12_copies (a := 0) (b := n + 1) (by omega) (by omega) (by omega) (o_wI μM 0 38 (nI (n + 1)))
    rw [e10, aR_1, e11, show fX12_copies rfM 0 0 (nI (n + 1)) (o_wI μM 0 38 (nI (n + 1))) = _ from p1, p_bd, p2 0 (by omega), e11, e12_gives, p_bd]
    refine ⟨nI (n + 1), _, _, rfl, rfl, Inv_st 0 ?_⟩
    have c1 : ∀ i, 0 < i → i < 62 + 25 * n ∨ 87 + 25 * n ≤ i → (o_wI (cpP m1 (82 + 25 * n) 50) 0 10 (nI (n + 1))).1 i = μC.1 i ∧ (o_wI (cpP m1 (82 + 25 * n) 50) 0 10 (nI (n + 1))).2 i = μC.2 i := fun i h9 hi => by
      refine ⟨?_, (q2 i (by omega)).2⟩
      rw [p_wI_o (by omega), cpP_o (by omega)]; exact (q2 i (by omega)).1
    have c2 : ∀ k, k ≠ 10 → (o_wI (cpP m1 (82 + 25 * n) 50) 0 10 (nI (n + 1))).1 0 k = μC.1 0 k := fun k hk => by
      rw [p_wI1, if_neg (fun z => hk z.2), cpP_o (by omega), (q2 0 (by omega)).1]
    have c3 : (o_wI (cpP m1 (82 + 25 * n) 50) 0 10 (nI (n + 1))).2 0 = μC.2 0 := (q2 0 (by omega)).2
    have d1 : ∀ i, i ≠ 0 → i ≠ 1 → m2.1 i = μM.1 i := fun i h0 h1 => by rw [p2 i h1, p_wI_o h0]
    have d2 : ∀ k, k ≠ 38 → m2.1 0 k = μM.1 0 k := fun k hk => by rw [p2 0 (by omega), p_wI1, if_neg (fun z => hk z.2)]
    have d3 : ∀ k, k < 626 * (n + 1) ∨ 626 * (n + 1) + 626 ≤ k → m2.1 1 k = μM.1 1 k := fun k hk => by rw [p4, if_neg (by omega)]; rfl
    have d4 : ∀ k, k < 16 * (n + 1) ∨ 16 * (n + 1) + 16 ≤ k → m2.2 2 k = μM.2 2 k := fun k hk => by rw [p5, if_neg (by omega)]; rfl
    refine ⟨⟨by rw [c2 0 (by omega), d2 2 (by omega)]; exact a1.1, by rw [c3, p3 0 (by omega)]; exact a1.2.1, by rw [c3, p3 0 (by omega)]; exact a1.2.2⟩, ?_, ?_, ?_, ?_, ⟨n + 1, by omega, by rw [p_wI1, if_pos ⟨rfl, rfl⟩], by rw [p2 0 (by omega)]; rfl, fun i hi => ?_⟩, ?_⟩
    · exact iTr_c (fun i p q => c1 i (by omega) (by omega)) (d1 3 (by omega) (by omega)) (d1 4 (by omega) (by omega)) (p3 5 (by omega)) a2
    · exact iTp_c (by rw [(c1 137 (by omega) (by omega)).1]) (c1 138 (by omega) (by omega)).1 (d2 10 (by omega)) (d1 6 (by omega) (by omega)) a3
    · unfold iFt at a4 ⊢; rw [(c1 137 (by omega) (by omega)).1, d2 16 (by omega), d2 17 (by omega)]; exact a4
    · exact slR_c (fun i p q => c1 i (by omega) (by omega)) (fun i p q => (c1 i (by omega) (by omega)).1) (fun k p q => d3 k (by omega)) (fun k p q => d4 k (by omega)) a5
    · by_cases ei : i = n
      · subst ei
        refine slR_cap (fun j k hj hk => ?_) (fun k hk => ?_) (fun k hk => ?_) (fun j k h1 h4 hk => ?_) (fun k hk => ?_) (fun k hk => ?_) a5
        · rw [p_wI_o (by omega), cpP_o (by omega)]; exact q3 j k hj hk
        · exact q4 k hk
        · rw [p_wI_o (by omega), cpP_0 hk, (q2 50 (by omega)).1]
        · rw [p_wI_o (by omega), cpP_r h1 h4 hk, (q2 _ (by omega)).1]
        · rw [p4, if_pos (by omega)]
          show μM.1 1 _ = _
          exact congrArg (μM.1 1) (by omega)
        · rw [p5, if_pos (by omega)]
          show μM.2 2 _ = _
          exact congrArg (μM.2 2) (by omega)
      · exact slR_c (fun j p q => c1 j (by omega) (by omega)) (fun j p q => (c1 j (by omega) (by omega)).1) (fun k p q => d3 k (by omega)) (fun k p q => d4 k (by omega)) (hm i (by omega))
    · unfold iLv at a7 ⊢; rw [(c1 144 (by omega) (by omega)).1, d2 37 (by omega), d1 18 (by omega) (by omega)]; exact a7
theorem pu_undo (h : Inv μC μM) : o_Eq2 (fX11_undo rfC 0 μC) (fX12_undo rfM 0 μM) Inv := by
  have h0 := h
  obtain ⟨a1, a2, a3, a4, a5, ⟨n, hn, e1, e2, hm⟩, a7⟩ := h
  unfold fX11_undo fX12_undo
  rw [e1, e2, rc0_4, rc0_6, rc0_8, rc0_9]
  by_cases h3 : n = 0
  · subst h3
    rw [if_neg (by decide), if_pos (by decide)]
    exact eq2_st h0 _ _ rfl rfl
  · obtain ⟨k0, rfl⟩ : ∃ k0, n = k0 + 1 := ⟨n - 1, by omega⟩
    rw [if_pos (show 0 < nI (k0 + 1) by rw [i32_lt, nI_toInt (by omega), c32_0]; omega), if_neg (show ¬ nI (k0 + 1) = 0 by rw [i32_eq, nI_toInt (by omega), c32_0]; omega), nI_pred, p_seq, show (o_wI μC 0 10 (nI k0)).1 0 10 = nI k0 from rfl, p_ck _ (by rw [nI_toInt (by omega)]; omega), nI_clamp (by omega), rc60]
    have hk := kMk (show k0 < 3 by omega)
    have hs := hm k0 (by omega)
    have eo : ∀ i, 0 < i → (o_wI μC 0 10 (nI k0)).1 i = μC.1 i := fun i hi => p_wI_o (by omega)
    obtain ⟨m1, q1, q2, q3, q4⟩ := e8_copy k10 hk.1 ⟨k17, k23, hk.2.1, hk.2.2.1⟩ (by omega) (o_wI μC 0 10 (nI k0)) (by rw [eo _ (by omega)]; exact hs.1.2.2.2.1)
    have e9 : m1.1 0 10 = nI k0 := by rw [(q2 0 (by omega)).1]; rfl
    have eq : ∀ i, 0 < i → i < 10 ∨ 30 ≤ i → m1.1 i = μC.1 i := fun i h9 hi => by rw [(q2 i (by omega)).1, eo i h9]
    rw [q1, p_bd, e9, p_ck _ (by rw [nI_toInt (by omega)]; omega), nI_clamp (by omega), rc61, e3_copy k50 hk.2.2.2 (by omega) m1 (by rw [eq _ (by omega) (by omega)]; exact pR_01 hs.2.2.2), p_bd, cpP_o (by omega), e9, e11_gives, p_bd]
    obtain ⟨m2, p1, p2, p3, p4, p5⟩ := e12_copies (a := k0 + 1) (b := 0) (by omega) (by omega) (by omega) μM
    rw [show fX12_copies rfM 0 (nI (k0 + 1)) 0 μM = _ from p1, p_bd, p2 0 (by omega), e2, nI_pred, p_seq, e12_gives, p_bd, show (o_wI m2 0 38 (nI k0)).1 0 38 = nI k0 from rfl]
    refine ⟨nI k0, _, _, rfl, rfl, Inv_st 0 ?_⟩
    have c1 : ∀ i, 0 < i → i < 10 ∨ (30 ≤ i ∧ i < 50) ∨ 55 ≤ i → (cpP m1 50 (82 + 25 * k0)).1 i = μC.1 i ∧ (cpP m1 50 (82 + 25 * k0)).2 i = μC.2 i := fun i h9 hi => by
      refine ⟨?_, (q2 i (by omega)).2⟩
      rw [cpP_o (by omega)]; exact eq i h9 (by omega)
    have c2 : ∀ k, k ≠ 10 → (cpP m1 50 (82 + 25 * k0)).1 0 k = μC.1 0 k := fun k hk => by
      rw [cpP_o (by omega), (q2 0 (by omega)).1, p_wI1, if_neg (fun z => hk z.2)]
    have c3 : (cpP m1 50 (82 + 25 * k0)).2 0 = μC.2 0 := (q2 0 (by omega)).2
    have d1 : ∀ i, i ≠ 0 → i ≠ 1 → (o_wI m2 0 38 (nI k0)).1 i = μM.1 i := fun i h0 h1 => by rw [p_wI_o h0, p2 i h1]
    have d2 : ∀ k, k ≠ 38 → (o_wI m2 0 38 (nI k0)).1 0 k = μM.1 0 k := fun k hk => by rw [p_wI1, if_neg (fun z => hk z.2), p2 0 (by omega)]
    have d3 : ∀ k, 626 ≤ k → (o_wI m2 0 38 (nI k0)).1 1 k = μM.1 1 k := fun k hk => by rw [p_wI_o (by omega), p4, if_neg (by omega)]
    have d4 : ∀ k, 16 ≤ k → (o_wI m2 0 38 (nI k0)).2 2 k = μM.2 2 k := fun k hk => by rw [p_wI2, p5, if_neg (by omega)]
    refine ⟨⟨by rw [c2 0 (by omega), d2 2 (by omega)]; exact a1.1, by rw [c3, p_wI2, p3 0 (by omega)]; exact a1.2.1, by rw [c3, p_wI2, p3 0 (by omega)]; exact a1.2.2⟩, ?_, ?_, ?_, ?_, ⟨k0, by omega, by rw [cpP_o (by omega)]; exact e9, rfl, fun i hi => ?_⟩, ?_⟩
    · exact iTr_c (fun i p q => c1 i (by omega) (by omega)) (d1 3 (by omega) (by omega)) (d1 4 (by omega) (by omega)) (by rw [p_wI2]; exact p3 5 (by omega)) a2
    · exact iTp_c (by rw [(c1 137 (by omega) (by omega)).1]) (c1 138 (by omega) (by omega)).1 (d2 10 (by omega)) (d1 6 (by omega) (by omega)) a3
    · unfold iFt at a4 ⊢; rw [(c1 137 (by omega) (by omega)).1, d2 16 (by omega), d2 17 (by omega)]; exact a4
    · refine slR_cap (fun j k hj hk => ?_) (fun k hk => ?_) (fun k hk => ?_) (fun j k h1 h4 hk => ?_) (fun k hk => ?_) (fun k hk => ?_) hs
      · rw [cpP_o (by omega), q3 j k hj hk, eo _ (by omega)]
      · exact q4 k hk
      · rw [cpP_0 hk, eq _ (by omega) (by omega)]
      · rw [cpP_r h1 h4 hk, eq _ (by omega) (by omega)]
      · rw [p_wI_o (by omega), p4, if_pos (by omega)]
        exact congrArg (μM.1 1) (by omega)
      · rw [p_wI2, p5, if_pos (by omega)]
        exact congrArg (μM.2 2) (by omega)
    · exact slR_c (fun j p q => c1 j (by omega) (by omega)) (fun j p q => (c1 j (by omega) (by omega)).1) (fun k p q => d3 k (by omega)) (fun k p q => d4 k (by omega)) (hm i (by omega))
    · unfold iLv at a7 ⊢; rw [(c1 144 (by omega) (by omega)).1, d2 37 (by omega), d1 18 (by omega) (by omega)]; exact a7
end mk
