/-! ===== a LETTER is brought ===== -/
theorem sob_okX {g : Nat → Nat → Int32} (hx : wfX g) (f t w h : Int32) : sob g f t w h = -1 ∨ inR (sob g f t w h) (cS g) := by
  unfold sob
  cases ho : fstFit g f t w h with
  | none => exact Or.inl rfl
  | some l => exact Or.inr (hx.2.2.2.2.1 l (fstFit_lt ho)).1
theorem stk_okX {g : Nat → Nat → Int32} (hx : wfX g) (f t w h : Int32) : stk g f t w h = -1 ∨ inR (stk g f t w h) (cS g) := by
  unfold stk
  split
  · exact drk_ok hx.1 (sob_okX hx f t w h)
  · exact sob_okX hx f t w h
theorem e12_struckX {g : Nat → Nat → Int32} {μ : o_Mem} (f t w h : Int32) (hx : wfX g) (hr : vR g (μ.1 1)) : fX12_struck rfM 0 f t w h μ = some (stk g f t w h, μ) := by
  have e : μ.1 1 8 = g 0 6 := hr.1.2.2.2.2.2.2.2.2.1
  unfold fX12_struck stk
  rw [e12_sober f t w h hx.1 hr, p_bd, r12_0, e, e12_drunk _ hx.1 hr (sob_okX hx f t w h), p_bd]
  split <;> rfl
theorem vR_B1 {g : Nat → Nat → Int32} {a : Nat → Int32} {f t w h : Int32} (hw : wfN g) (hr : vR g a) : vR g (aB1 a (cC g) f t w h) := by
  have ho : ∀ k, k < 199 + 5 * cC g → aB1 a (cC g) f t w h k = a k := fun k hk => by
    unfold aB1
    rw [if_neg (by omega), if_neg (by omega), if_neg (by omega), if_neg (by omega)]
  refine vR_gen hw hr ⟨fun _ _ => rfl, rfl, rfl, rfl, rfl, rfl, rfl⟩ (fun k hk => ho k (by omega)) hw.2.2.2.2.1.2 hw.2.2.2.2.1.1 hw.2.2.2.2.2.2 hw.2.2.2.2.2.1 ?_ ?_ ?_ ?_ ?_ ?_ (fun k hk => ?_) (fun k w9 hk h4 => ?_) (fun k w9 hk h5 => ?_)
  · rw [ho 4 (by omega), hr.1.2.2.2.2.1]; exact hw.2.2.2.2.1.1
  · rw [ho 5 (by omega), hr.1.2.2.2.2.2.1]; exact hw.2.2.2.2.2.1
  · rw [ho 7 (by omega)]; exact hr.1.2.2.2.2.2.2.2.1
  · rw [ho 9 (by omega)]; exact hr.1.2.2.2.2.2.2.2.2.2.1
  · rw [ho 10 (by omega)]; exact hr.1.2.2.2.2.2.2.2.2.2.2.1
  · rw [ho 11 (by omega)]; exact hr.1.2.2.2.2.2.2.2.2.2.2.2
  · have := hw.1.2
    rw [ho _ (by omega)]; exact (hr.2.1 k hk).2
  · have := hw.2.2.2.2.1.2
    rw [ho _ (by omega)]; exact hr.2.2.2.2.2.1 k w9 hk h4
  · rw [ho _ (by omega)]; exact hr.2.2.2.2.2.2 k w9 hk h5
theorem e12_brings {g : Nat → Nat → Int32} {μ : o_Mem} (hx : wfX g) (hr : vR g (μ.1 1)) (hC : cC g < 12) {k : Nat} (hk : k < cW g) : ∃ m, fX12_brings rfM 0 (nI k) μ = some ((), m) ∧ (∀ i, i ≠ 1 → m.1 i = μ.1 i) ∧ m.2 = μ.2 ∧ m.1 1 = aBr (μ.1 1) (cC g) (g 8 k) (g 9 k) (g 10 k) (g 11 k) (stk g (g 8 k) (g 9 k) (g 10 k) (g 11 k)) := by
  have hW := hx.1.2.2.2.2.1.2
  have hn : μ.1 1 5 = nI (cC g) := hr.1.2.2.2.2.2.1.trans hx.1.2.2.2.2.2.1
  have l0 : μ.1 1 (151 + 4 * k + 0) = g 8 k := hr.2.2.2.2.2.1 k 0 hk (by omega)
  have l1 : μ.1 1 (151 + 4 * k + 1) = g 9 k := hr.2.2.2.2.2.1 k 1 hk (by omega)
  have l2 : μ.1 1 (151 + 4 * k + 2) = g 10 k := hr.2.2.2.2.2.1 k 2 hk (by omega)
  have l3 : μ.1 1 (151 + 4 * k + 3) = g 11 k := hr.2.2.2.2.2.1 k 3 hk (by omega)
  obtain ⟨m3, e1, e2, e3, e4⟩ := lp_inv (head := 18) (e := 48) (step := fX12_brings_s18 rfM 0 (nI (199 + 5 * cC g)) (nI (151 + 4 * k))) (fun q m => (∀ i, i ≠ 1 → m.1 i = μ.1 i) ∧ m.2 = μ.2 ∧ ∀ j, m.1 1 j = if 199 + 5 * cC g ≤ j ∧ j < 199 + 5 * cC g + q then μ.1 1 (151 + 4 * k + (j - (199 + 5 * cC g))) else μ.1 1 j) (N := 4) (k0 := 0)
    (fun q m _ hq ⟨i1, i2, i3⟩ => by
      unfold fX12_brings_s18
      rw [if_neg (show ¬ (4 : Int32) ≤ nI q by rw [show (4 : Int32) = nI 4 from rfl, n_le (by omega) (by omega)]; omega)]
      simp (disch := omega) only [qm_0, nI_add', nI_toInt, nI_clamp, p_ck, p_seq, aR_1]
      refine ⟨_, rfl, fun i hi => by rw [p_wI_o hi]; exact i1 i hi, i2, fun j => ?_⟩
      rw [p_wI1, i3, i3 j]
      by_cases ej : j = 199 + 5 * cC g + q
      · rw [if_pos ⟨rfl, ej⟩, if_neg (by omega), if_pos (by omega)]
        exact congrArg (μ.1 1) (by omega)
      · rw [if_neg (fun z => ej z.2)]
        by_cases e9 : 199 + 5 * cC g ≤ j ∧ j < 199 + 5 * cC g + q
        · rw [if_pos e9, if_pos (by omega)]
        · rw [if_neg e9, if_neg (by omega)])
    (fun m _ => by unfold fX12_brings_s18; rw [if_pos (by decide)]) (by decide) 4 0 μ (by omega) (by omega) ⟨fun _ _ => rfl, rfl, fun j => by rw [if_neg (by omega)]⟩
  have A3 : m3.1 1 = aB1 (μ.1 1) (cC g) (g 8 k) (g 9 k) (g 10 k) (g 11 k) := by
    funext j
    rw [e4]
    unfold aB1
    by_cases h0 : j = 199 + 5 * cC g
    · rw [if_pos (by omega), if_pos h0, ← l0]; exact congrArg (μ.1 1) (by omega)
    · rw [if_neg h0]
      by_cases h1 : j = 199 + 5 * cC g + 1
      · rw [if_pos (by omega), if_pos h1, ← l1]; exact congrArg (μ.1 1) (by omega)
      · rw [if_neg h1]
        by_cases h2 : j = 199 + 5 * cC g + 2
        · rw [if_pos (by omega), if_pos h2, ← l2]; exact congrArg (μ.1 1) (by omega)
        · rw [if_neg h2]
          by_cases h3 : j = 199 + 5 * cC g + 3
          · rw [if_pos (by omega), if_pos h3, ← l3]; exact congrArg (μ.1 1) (by omega)
          · rw [if_neg h3, if_neg (by omega)]
  have hr3 : vR g (m3.1 1) := by rw [A3]; exact vR_B1 hx.1 hr
  have y0 : m3.1 1 (199 + 5 * cC g) = g 8 k := by rw [A3]; unfold aB1; rw [if_pos rfl]
  have y1 : m3.1 1 (199 + 5 * cC g + 1) = g 9 k := by rw [A3]; unfold aB1; rw [if_neg (by omega), if_pos rfl]
  have y2 : m3.1 1 (199 + 5 * cC g + 2) = g 10 k := by rw [A3]; unfold aB1; rw [if_neg (by omega), if_neg (by omega), if_pos rfl]
  have y3 : m3.1 1 (199 + 5 * cC g + 3) = g 11 k := by rw [A3]; unfold aB1; rw [if_neg (by omega), if_neg (by omega), if_neg (by omega), if_pos rfl]
  unfold fX12_brings fX12_coverRow fX12_letterRow
  rw [qm_0, hn, mL_5, aL_199, p_bd, mL_4, aL_151, p_bd, show o_lp 18 (fX12_brings_s18 rfM 0 (nI (199 + 5 * cC g)) (nI (151 + 4 * k))) o_fuel 0 μ = _ from p_lp e1 (by omega), p_bd, if_pos rfl]
  simp (disch := omega) only [aR_1, aR_2, aR_3, aR_4, nI_toInt, nI_clamp, p_ck, y0, y1, y2, y3]
  rw [e12_struckX _ _ _ _ hx hr3, p_bd]
  have hs := stk_okX hx (g 8 k) (g 9 k) (g 10 k) (g 11 k)
  generalize stk g (g 8 k) (g 9 k) (g 10 k) (g 11 k) = s at hs ⊢
  have ho : ∀ j, j < 199 + 5 * cC g → m3.1 1 j = μ.1 1 j := fun j hj => by rw [e4, if_neg (by omega)]
  have x5 : (o_wI m3 1 (199 + 5 * cC g + 4) s).1 1 5 = nI (cC g) := by rw [p_wI1, if_neg (by omega), ho 5 (by omega)]; exact hn
  rw [p_seq, x5, aR_1, p_seq]
  have x9 : (o_wI (o_wI m3 1 (199 + 5 * cC g + 4) s) 1 5 (nI (cC g + 1))).1 1 9 = μ.1 1 9 := by rw [p_wI1, if_neg (by omega), p_wI1, if_neg (by omega), ho 9 (by omega)]
  rw [x9, p_seq]
  have e7 : (o_wI (o_wI (o_wI m3 1 (199 + 5 * cC g + 4) s) 1 5 (nI (cC g + 1))) 1 9 (μ.1 1 9 + 1)).1 1 = aB2 (μ.1 1) (cC g) (g 8 k) (g 9 k) (g 10 k) (g 11 k) s := by
    unfold aB2
    rw [← A3]; rfl
  have f7 : ∀ i, i ≠ 1 → (o_wI (o_wI (o_wI m3 1 (199 + 5 * cC g + 4) s) 1 5 (nI (cC g + 1))) 1 9 (μ.1 1 9 + 1)).1 i = μ.1 i := fun i hi => by rw [p_wI_o hi, p_wI_o hi, p_wI_o hi]; exact e2 i hi
  have s7 : (o_wI (o_wI (o_wI m3 1 (199 + 5 * cC g + 4) s) 1 5 (nI (cC g + 1))) 1 9 (μ.1 1 9 + 1)).2 = μ.2 := e3
  generalize o_wI (o_wI (o_wI m3 1 (199 + 5 * cC g + 4) s) 1 5 (nI (cC g + 1))) 1 9 (μ.1 1 9 + 1) = m7 at e7 f7 s7 ⊢
  unfold aBr
  by_cases e : s = -1
  · rw [if_pos e, p_seq]
    refine ⟨_, rfl, fun i hi => by rw [p_wI_o hi]; exact f7 i hi, s7, ?_⟩
    rw [if_pos e, mA_w, e7, aB2_o (by omega) (by omega) (by omega)]
  · rcases hs with hs | hs
    · exact absurd hs e
    · obtain ⟨i, hi, hi2, rfl⟩ := rg_nI (x := s) (n := cS g) hs
      have b := hx.1.1.2
      rw [if_neg e]
      unfold fX12_strikeRow
      simp (disch := omega) only [mL_2, aL_13, p_bd, nI_toInt, nI_clamp, p_ck, p_seq, aR_1]
      refine ⟨_, rfl, fun i hi => by rw [p_wI_o hi, p_wI_o hi]; exact f7 i hi, s7, ?_⟩
      rw [if_neg e, mA_w, mA_w, e7, aB2_o (by omega) (by omega) (by omega), aB2_o (by omega) (by omega) (by omega), u_ne (by omega), aB2_o (by omega) (by omega) (by omega), show 13 + 2 * i + 1 = 14 + 2 * i by omega]
section br
variable {v : Nat} {μ : o_Mem}
theorem bV_wv0 (μ : o_Mem) (v k : Nat) (x : Int32) : bV (o_wI μ v k x) v = updG (bV μ v) 0 k x := bV_wv μ v 0 k x
theorem e8_bring (hv : kdC v = .inl 8) (h7 : kdC (v + 7) = .inl 1) (h13 : kdC (v + 13) = .inl 1) (hx : wfX (bV μ v)) (hC : cC (bV μ v) < 12) {p k : Nat} (hk : k < cW (bV μ v)) (ht : bV μ v 9 k = nI p) : ∃ m, fX8_bringTo_s2 rfC v (nI p) (nI k) μ = some ((2, nI (k + 1)), m) ∧ (∀ i, i < v ∨ v + 20 ≤ i → m.1 i = μ.1 i) ∧ m.2 = μ.2 ∧ bV m v = gBr (bV μ v) (cC (bV μ v)) (bV μ v 8 k) (bV μ v 9 k) (bV μ v 10 k) (bV μ v 11 k) (stk (bV μ v) (bV μ v 8 k) (bV μ v 9 k) (bV μ v 10 k) (bV μ v 11 k)) := by
  have r15 : rfC v 15 = v + 7 := by rw [rf8 hv]; rfl
  have r16 : rfC v 16 = v + 13 := by rw [rf8 hv]; rfl
  have r10 : rfC v 10 = v + 2 := by rw [rf8 hv]; rfl
  have t1 : rfC (v + 7) 1 = v + 8 := rf1 h7 1
  have t2 : rfC (v + 7) 2 = v + 9 := rf1 h7 2
  have t3 : rfC (v + 7) 3 = v + 10 := rf1 h7 3
  have t4 : rfC (v + 7) 4 = v + 11 := rf1 h7 4
  have hW := hx.1.2.2.2.2.1.2
  have b8 := hx.1.2.2.2.1.2
  have ew : μ.1 (v + 7) 0 = nI (cW (bV μ v)) := hx.1.2.2.2.2.1.1
  have ec : μ.1 (v + 13) 0 = nI (cC (bV μ v)) := hx.1.2.2.2.2.2.1
  have et : μ.1 (v + 9) k = nI p := ht
  unfold fX8_bringTo_s2 fX8_bringTo_j79
  rw [r15, ew, if_neg (show ¬ nI (cW (bV μ v)) ≤ nI k by rw [n_le (by omega) (by omega)]; omega), r16, t1, t2, t3, t4]
  simp (disch := omega) only [nI_toInt, nI_clamp, p_ck, et, e8_firstFit hv _ _ _ _ μ hx.1, p_bd, aR_1]
  rw [if_pos trivial, e8_strikeBy hv μ _ (fun l hl => by have := fstFit_lt hl; omega), p_bd]
  rw [← et, show μ.1 (v + 8) k = bV μ v 8 k from rfl, show μ.1 (v + 9) k = bV μ v 9 k from rfl, show μ.1 (v + 10) k = bV μ v 10 k from rfl, show μ.1 (v + 11) k = bV μ v 11 k from rfl]
  have hs := stk_okX hx (bV μ v 8 k) (bV μ v 9 k) (bV μ v 10 k) (bV μ v 11 k)
  have key : ∀ s, (s = -1 ∨ inR s (cS (bV μ v))) → ∃ m, (o_bd (fX1_add rfC (v + 13) (bV μ v 8 k) (bV μ v 9 k) (bV μ v 10 k) (bV μ v 11 k) s μ) fun _u μ1 => o_bd (fX8_count rfC v s μ1) fun _u μ2 => some ((2, nI (k + 1)), μ2)) = some ((2, nI (k + 1)), m) ∧ (∀ i, i < v ∨ v + 20 ≤ i → m.1 i = μ.1 i) ∧ m.2 = μ.2 ∧ bV m v = gBr (bV μ v) (cC (bV μ v)) (bV μ v 8 k) (bV μ v 9 k) (bV μ v 10 k) (bV μ v 11 k) s := by
    intro s hs
    rw [e1_add h13 μ ec hC, p_bd]
    have eb := bV_add μ v 13 (cC (bV μ v)) (bV μ v 8 k) (bV μ v 9 k) (bV μ v 10 k) (bV μ v 11 k) s
    have fo : ∀ i, i < v ∨ v + 20 ≤ i → (addL μ (v + 13) (cC (bV μ v)) (bV μ v 8 k) (bV μ v 9 k) (bV μ v 10 k) (bV μ v 11 k) s).1 i = μ.1 i := fun i hi => addL_o (by omega)
    have f2 : (addL μ (v + 13) (cC (bV μ v)) (bV μ v 8 k) (bV μ v 9 k) (bV μ v 10 k) (bV μ v 11 k) s).2 = μ.2 := rfl
    have c7 : (addL μ (v + 13) (cC (bV μ v)) (bV μ v 8 k) (bV μ v 9 k) (bV μ v 10 k) (bV μ v 11 k) s).1 v = μ.1 v := addL_o (by omega)
    have c2 : (addL μ (v + 13) (cC (bV μ v)) (bV μ v 8 k) (bV μ v 9 k) (bV μ v 10 k) (bV μ v 11 k) s).1 (v + 2) = μ.1 (v + 2) := addL_o (by omega)
    generalize addL μ (v + 13) (cC (bV μ v)) (bV μ v 8 k) (bV μ v 9 k) (bV μ v 10 k) (bV μ v 11 k) s = m1 at eb fo f2 c7 c2 ⊢
    unfold fX8_count gBr
    rw [p_seq, c7, r10]
    by_cases e : s = -1
    · rw [if_pos e, if_pos e, p_seq, p_bd]
      refine ⟨_, rfl, fun i hi => by rw [p_wI_o (by omega), p_wI_o (by omega)]; exact fo i hi, f2, ?_⟩
      rw [bV_wv0, bV_wv0, eb, p_wI1, if_neg (by omega), c7]; rfl
    · rcases hs with hs | hs
      · exact absurd hs e
      · obtain ⟨i, hi, hi2, rfl⟩ := rg_nI (x := s) (n := cS (bV μ v)) hs
        have b := hx.1.1.2
        rw [if_neg e, if_neg e]
        simp (disch := omega) only [nI_toInt, nI_clamp, p_ck, p_seq, p_bd]
        refine ⟨_, rfl, fun i hi => by rw [p_wI_o (by omega), p_wI_o (by omega)]; exact fo i hi, f2, ?_⟩
        rw [bV_wv, bV_wv0, eb, p_wI_o (by omega), c2]; rfl
  have e6 : μ.1 v 6 = bV μ v 0 6 := rfl
  rw [e6, e8_behind, p_bd]
  unfold stk at hs ⊢
  rw [show stkBy (bV μ v) (fstFit (bV μ v) (bV μ v 8 k) (bV μ v 9 k) (bV μ v 10 k) (bV μ v 11 k)) = sob (bV μ v) (bV μ v 8 k) (bV μ v 9 k) (bV μ v 10 k) (bV μ v 11 k) from rfl]
  rcases hx.2.2.2.1 with h6 | h6
  · rw [if_pos h6]
    rw [if_neg (by rw [h6]; decide)] at hs ⊢
    exact key _ hs
  · rw [if_neg (by rw [h6]; decide)]
    rw [if_pos h6] at hs ⊢
    exact key _ hs
end br
