/-! ===== WEEKS are lived ===== -/
def plD (g : Nat → Nat → Int32) (n : Nat) (pl : Nat → Nat → Int32) (a : Nat → Int32) : Prop := n ≤ 60 ∧ pl 0 2 = nI n ∧ a 12 = nI n ∧
    (∀ k, k < n → rowR g n (pl 1 k) (pl 2 k) (pl 3 k) (pl 4 k) (fun j => a (259 + 6 * k + j))) ∧
    (∀ k, k < n → pl 1 k = 25 → ∃ o : Nat, o < k ∧ pl 4 k = nI o ∧ (pl 1 o = 20 ∨ pl 1 o = 24) ∧ pl 4 o = nI k) ∧
    (∀ k, k < n → (pl 1 k = 20 ∨ pl 1 k = 24) → ∃ o : Nat, k < o ∧ o < n ∧ pl 4 k = nI o ∧ pl 1 o = 25 ∧ pl 4 o = nI k) ∧
    (∀ k o, k < n → (pl 1 k = 20 ∨ pl 1 k = 24) → k < o → o < (pl 4 k).toNatClampNeg → (pl 1 o = 20 ∨ pl 1 o = 24) → (pl 4 o).toNatClampNeg < (pl 4 k).toNatClampNeg)
theorem plD_of {g pl : Nat → Nat → Int32} {a : Nat → Int32} (h : pR g pl a) (h0 : ¬ pl 0 0 = 0) : ∃ n, plD g n pl a := by
  rcases h with h | ⟨_, n, q2, q3, q4, q5, q6, q7, q8⟩
  · exact absurd h.1 h0
  · exact ⟨n, q2, q3, q4, q5, q6, q7, q8⟩
/-- the life so far: s steps, d misses that the reference has still to count -/
def lvB (v : Nat) (g0 : Nat → Nat → Int32) (μC μM : o_Mem) (d s : Nat) (μ1 μ2 : o_Mem) : Prop :=
  (∀ i, i < v ∨ v + 20 ≤ i → i ≠ 142 → i ≠ 143 → μ1.1 i = μC.1 i) ∧ μ1.2 = μC.2 ∧ (∀ i, i ≠ 0 → i ≠ 1 → i ≠ 16 → i ≠ 17 → μ2.1 i = μM.1 i) ∧ (∀ k, k ≠ 32 → k ≠ 33 → μ2.1 0 k = μM.1 0 k) ∧ μ2.2 = μM.2 ∧ (∀ k, k = 12 ∨ 259 ≤ k → μ2.1 1 k = μM.1 1 k) ∧
  (wfV (bV μ1 v) ∧ vR (bV μ1 v) (μ2.1 1) ∧ cS (bV μ1 v) = cS g0 ∧ cH (bV μ1 v) = cH g0 ∧ cP (bV μ1 v) = cP g0) ∧
  ((∀ j, 1 ≤ j → j < 5 → μ1.1 142 j = μ2.1 17 j) ∧ μ1.1 142 5 = nI s ∧ μ2.1 0 33 = nI s ∧ μ1.1 142 6 = μ2.1 0 32 ∧ ∃ m, m + d ≤ s ∧ μ1.1 142 0 = nI (m + d) ∧ μ2.1 17 0 = nI m)
def lpI (pl : Nat → Nat → Int32) (n k : Nat) (μ1 μ2 : o_Mem) : Prop := ∀ o, o < n → pl 1 o = 24 → o < k → k ≤ (pl 4 o).toNatClampNeg → ∃ c, c ≤ 98 ∧ μ1.1 143 o = nI (c + 1) ∧ μ2.1 16 o = nI c
theorem bV_far (μ : o_Mem) {v i : Nat} (hi : v + 200 ≤ i ∨ 142 ≤ i ∧ v + 20 ≤ 50) (k : Nat) (x : Int32) {j : Nat} (hj : j < 20) : bV (o_wI μ i k x) v j = bV μ v j := by
  funext q
  show (o_wI μ i k x).1 (v + j) q = μ.1 (v + j) q
  rw [p_wI_o (by omega)]
theorem val_c {μ1 m1 : o_Mem} {v : Nat} (h : ∀ j, j < 20 → bV m1 v j = bV μ1 v j) {a : Nat → Int32} (hw : wfV (bV μ1 v)) (hr : vR (bV μ1 v) a) : wfV (bV m1 v) ∧ vR (bV m1 v) a ∧ cS (bV m1 v) = cS (bV μ1 v) ∧ cH (bV m1 v) = cH (bV μ1 v) ∧ cP (bV m1 v) = cP (bV μ1 v) := by
  have hc : ∀ j k, j < 19 → k < capV j → bV m1 v j k = bV μ1 v j k := fun j k hj _ => by rw [h j (by omega)]
  obtain ⟨c1, c2, c3, -⟩ := cN_cap hc
  exact ⟨wfV_cap hc hw, vR_cap hc (fun _ _ => rfl) hw.1 hr, c1, c2, c3⟩
section lv
variable {v : Nat} {g0 : Nat → Nat → Int32} {μC μM μ1 μ2 : o_Mem} {d s : Nat}
theorem lvB_st (hv : v + 20 ≤ 50) (h : lvB v g0 μC μM d s μ1 μ2) : lvB v g0 μC μM d (s + 1) (o_wI μ1 142 5 (nI (s + 1))) (o_wI μ2 0 33 (nI (s + 1))) := by
  obtain ⟨f1, f2, f3, f4, f5, f6, ⟨hw, hr, c1, c2, c3⟩, l1, l2, l3, l4, m, l5, l6, l7⟩ := h
  obtain ⟨w1, w2, w3, w4, w5⟩ := val_c (m1 := o_wI μ1 142 5 (nI (s + 1))) (fun j hj => bV_far μ1 (by omega) 5 _ hj) hw hr
  refine ⟨fun i h1 h2 h3 => by rw [p_wI_o h2]; exact f1 i h1 h2 h3, f2, fun i h0 h1 h2 h3 => by rw [p_wI_o h0]; exact f3 i h0 h1 h2 h3, fun k h1 h2 => by rw [p_wI1, if_neg (fun z => h2 z.2)]; exact f4 k h1 h2, f5, fun k hk => by rw [p_wI_o (by omega)]; exact f6 k hk, ⟨w1, by rw [p_wI_o (by omega)]; exact w2, w3.trans c1, w4.trans c2, w5.trans c3⟩, fun j h1 h5 => by rw [p_wI1, if_neg (by omega), p_wI_o (by omega)]; exact l1 j h1 h5, by rw [p_wI1, if_pos ⟨rfl, rfl⟩], by rw [p_wI1, if_pos ⟨rfl, rfl⟩], by rw [p_wI1, if_neg (by omega), p_wI1, if_neg (by omega)]; exact l4, m, by omega, by rw [p_wI1, if_neg (by omega)]; exact l6, by rw [p_wI_o (by omega)]; exact l7⟩
theorem lvB_fr (hv : v + 20 ≤ 50) (h : lvB v g0 μC μM d s μ1 μ2) {m1 m2 : o_Mem} (hf : Fr v μ1 μ2 m1 m2) (hw1 : wfV (bV m1 v)) (hr1 : vR (bV m1 v) (m2.1 1)) (hs : cS (bV m1 v) = cS (bV μ1 v) ∧ cH (bV m1 v) = cH (bV μ1 v) ∧ cP (bV m1 v) = cP (bV μ1 v)) : lvB v g0 μC μM d s m1 m2 := by
  obtain ⟨f1, f2, f3, f4, f5, f6, ⟨hw, hr, c1, c2, c3⟩, l1, l2, l3, l4, m, l5, l6, l7⟩ := h
  obtain ⟨e1, e2, e3, e4, e5⟩ := hf
  have a1 := e1 142 (by omega)
  have a2 := e3 17 (by omega)
  have a3 := e3 0 (by omega)
  exact ⟨fun i h1 h2 h3 => (e1 i h1).trans (f1 i h1 h2 h3), e2.trans f2, fun i h0 h1 h2 h3 => (e3 i h1).trans (f3 i h0 h1 h2 h3), fun k h1 h2 => by rw [a3]; exact f4 k h1 h2, e4.trans f5, fun k hk => (e5 k hk).trans (f6 k hk), ⟨hw1, hr1, hs.1.trans c1, hs.2.1.trans c2, hs.2.2.trans c3⟩, fun j h1 h5 => by rw [a1, a2]; exact l1 j h1 h5, by rw [a1]; exact l2, by rw [a3]; exact l3, by rw [a1, a3]; exact l4, m, l5, by rw [a1]; exact l6, by rw [a2]; exact l7⟩
theorem lvB_ct (hv : v + 20 ≤ 50) (h : lvB v g0 μC μM d s μ1 μ2) {j : Nat} (h1 : 1 ≤ j) (h5 : j < 5) (x : Int32) : lvB v g0 μC μM d s (o_wI μ1 142 j x) (o_wI μ2 17 j x) := by
  obtain ⟨f1, f2, f3, f4, f5, f6, ⟨hw, hr, c1, c2, c3⟩, l1, l2, l3, l4, m, l5, l6, l7⟩ := h
  obtain ⟨w1, w2, w3, w4, w5⟩ := val_c (m1 := o_wI μ1 142 j x) (fun q hq => bV_far μ1 (by omega) j _ hq) hw hr
  refine ⟨fun i h1 h2 h3 => by rw [p_wI_o h2]; exact f1 i h1 h2 h3, f2, fun i h0 h1 h2 h3 => by rw [p_wI_o h3]; exact f3 i h0 h1 h2 h3, fun k h1 h2 => by rw [p_wI_o (by omega)]; exact f4 k h1 h2, f5, fun k hk => by rw [p_wI_o (by omega)]; exact f6 k hk, ⟨w1, by rw [p_wI_o (by omega)]; exact w2, w3.trans c1, w4.trans c2, w5.trans c3⟩, fun i i1 i5 => ?_, by rw [p_wI1, if_neg (by omega)]; exact l2, by rw [p_wI_o (by omega)]; exact l3, by rw [p_wI1, if_neg (by omega), p_wI_o (by omega)]; exact l4, m, l5, by rw [p_wI1, if_neg (by omega)]; exact l6, by rw [p_wI1, if_neg (by omega)]; exact l7⟩
  rw [p_wI1, p_wI1]
  by_cases e : i = j
  · rw [if_pos ⟨rfl, e⟩, if_pos ⟨rfl, e⟩]
  · rw [if_neg (fun z => e z.2), if_neg (fun z => e z.2)]; exact l1 i i1 i5
theorem lvB_dr (hv : v + 20 ≤ 50) (h : lvB v g0 μC μM d s μ1 μ2) (x : Int32) : lvB v g0 μC μM d s (o_wI μ1 142 6 x) (o_wI μ2 0 32 x) := by
  obtain ⟨f1, f2, f3, f4, f5, f6, ⟨hw, hr, c1, c2, c3⟩, l1, l2, l3, l4, m, l5, l6, l7⟩ := h
  obtain ⟨w1, w2, w3, w4, w5⟩ := val_c (m1 := o_wI μ1 142 6 x) (fun q hq => bV_far μ1 (by omega) 6 _ hq) hw hr
  exact ⟨fun i h1 h2 h3 => by rw [p_wI_o h2]; exact f1 i h1 h2 h3, f2, fun i h0 h1 h2 h3 => by rw [p_wI_o h0]; exact f3 i h0 h1 h2 h3, fun k h1 h2 => by rw [p_wI1, if_neg (fun z => h1 z.2)]; exact f4 k h1 h2, f5, fun k hk => by rw [p_wI_o (by omega)]; exact f6 k hk, ⟨w1, by rw [p_wI_o (by omega)]; exact w2, w3.trans c1, w4.trans c2, w5.trans c3⟩, fun i i1 i5 => by rw [p_wI1, if_neg (by omega), p_wI_o (by omega)]; exact l1 i i1 i5, by rw [p_wI1, if_neg (by omega)]; exact l2, by rw [p_wI1, if_neg (by omega)]; exact l3, by rw [p_wI1, if_pos ⟨rfl, rfl⟩, p_wI1, if_pos ⟨rfl, rfl⟩], m, l5, by rw [p_wI1, if_neg (by omega)]; exact l6, by rw [p_wI_o (by omega)]; exact l7⟩
theorem lvB_lp (hv : v + 20 ≤ 50) (h : lvB v g0 μC μM d s μ1 μ2) (k : Nat) (x y : Int32) : lvB v g0 μC μM d s (o_wI μ1 143 k x) (o_wI μ2 16 k y) := by
  obtain ⟨f1, f2, f3, f4, f5, f6, ⟨hw, hr, c1, c2, c3⟩, l1, l2, l3, l4, m, l5, l6, l7⟩ := h
  obtain ⟨w1, w2, w3, w4, w5⟩ := val_c (m1 := o_wI μ1 143 k x) (fun q hq => bV_far μ1 (by omega) k _ hq) hw hr
  exact ⟨fun i h1 h2 h3 => by rw [p_wI_o h3]; exact f1 i h1 h2 h3, f2, fun i h0 h1 h2 h3 => by rw [p_wI_o h2]; exact f3 i h0 h1 h2 h3, fun k h1 h2 => by rw [p_wI_o (by omega)]; exact f4 k h1 h2, f5, fun k hk => by rw [p_wI_o (by omega)]; exact f6 k hk, ⟨w1, by rw [p_wI_o (by omega)]; exact w2, w3.trans c1, w4.trans c2, w5.trans c3⟩, fun i i1 i5 => by rw [p_wI_o (by omega), p_wI_o (by omega)]; exact l1 i i1 i5, by rw [p_wI_o (by omega)]; exact l2, by rw [p_wI_o (by omega)]; exact l3, by rw [p_wI_o (by omega), p_wI_o (by omega)]; exact l4, m, l5, by rw [p_wI_o (by omega)]; exact l6, by rw [p_wI_o (by omega)]; exact l7⟩
/-- a miss: the class counts it at once -/
theorem lvB_ms (hv : v + 20 ≤ 50) (h : lvB v g0 μC μM 0 s μ1 μ2) (h1 : ∀ m, m < 2000 → μ1.1 142 0 = nI m → m + 1 ≤ s) (hs : s < 1000) : lvB v g0 μC μM 1 s (o_wI μ1 142 0 (μ1.1 142 0 + 1)) μ2 := by
  obtain ⟨f1, f2, f3, f4, f5, f6, ⟨hw, hr, c1, c2, c3⟩, l1, l2, l3, l4, m, l5, l6, l7⟩ := h
  obtain ⟨w1, w2, w3, w4, w5⟩ := val_c (m1 := o_wI μ1 142 0 (μ1.1 142 0 + 1)) (fun q hq => bV_far μ1 (by omega) 0 _ hq) hw hr
  exact ⟨fun i h1 h2 h3 => by rw [p_wI_o h2]; exact f1 i h1 h2 h3, f2, f3, f4, f5, f6, ⟨w1, w2, w3.trans c1, w4.trans c2, w5.trans c3⟩, fun i i1 i5 => by rw [p_wI1, if_neg (by omega)]; exact l1 i i1 i5, by rw [p_wI1, if_neg (by omega)]; exact l2, l3, by rw [p_wI1, if_neg (by omega)]; exact l4, m, h1 m (by omega) l6, by rw [p_wI1, if_pos ⟨rfl, rfl⟩, l6, aR_1], l7⟩
/-- the reference counts its miss -/
theorem lvB_m2 (h : lvB v g0 μC μM d s μ1 μ2) : lvB v g0 μC μM 0 s μ1 (o_wI μ2 17 0 (μ2.1 17 0 + nI d)) := by
  obtain ⟨f1, f2, f3, f4, f5, f6, ⟨hw, hr, c1, c2, c3⟩, l1, l2, l3, l4, m, l5, l6, l7⟩ := h
  exact ⟨f1, f2, fun i h0 h1 h2 h3 => by rw [p_wI_o h3]; exact f3 i h0 h1 h2 h3, fun k h1 h2 => by rw [p_wI_o (by omega)]; exact f4 k h1 h2, f5, fun k hk => by rw [p_wI_o (by omega)]; exact f6 k hk, ⟨hw, by rw [p_wI_o (by omega)]; exact hr, c1, c2, c3⟩, fun i i1 i5 => by rw [p_wI1, if_neg (by omega)]; exact l1 i i1 i5, l2, by rw [p_wI_o (by omega)]; exact l3, by rw [p_wI_o (by omega)]; exact l4, m + d, by omega, l6, by rw [p_wI1, if_pos ⟨rfl, rfl⟩, l7, nI_add']⟩
theorem lvB_ge (h : lvB v g0 μC μM 0 s μ1 μ2) : lvB v g0 μC μM 0 (s + 1) (o_wI μ1 142 5 (nI (s + 1))) (o_wI μ2 0 33 (nI (s + 1))) → ∀ m, (o_wI μ1 142 5 (nI (s + 1))).1 142 0 = nI m → m < 2 ^ 31 → s < 2 ^ 30 → m + 1 ≤ s + 1 := by
  intro _ m hm hb hs
  obtain ⟨-, -, -, -, -, -, -, -, -, -, -, q, l5, l6, -⟩ := h
  rw [p_wI1, if_neg (by omega), l6, nI_inj (by omega) hb] at hm
  omega
end lv
section hd
variable {v : Nat} {μ1 μ2 : o_Mem}
/-- whether a when holds -/
theorem e_holds (hv : kdC v = .inl 8) (h13 : kdC (v + 13) = .inl 1) (hw : wfV (bV μ1 v)) (hr : vR (bV μ1 v) (μ2.1 1)) {k : Nat} (hk : k < 60) {a b : Int32} (hrow : (a = 21 ∧ μ2.1 1 (259 + 6 * k) = 2024 ∧ μ2.1 1 (259 + 6 * k + 1) = b) ∨ (a = 23 ∧ μ2.1 1 (259 + 6 * k) = 2026) ∨ ((a = 60 ∨ a = 61 ∨ a = 62) ∧ μ2.1 1 (259 + 6 * k) = 2025 ∧ μ2.1 1 (259 + 6 * k + 5) = a ∧ μ2.1 1 (259 + 6 * k + 2) = b)) : ∃ r, (r = 0 ∨ r = 1) ∧ fX2_holds rfC v a b μ1 = some (r, μ1) ∧ fX12_holds rfM 0 (nI (259 + 6 * k)) μ2 = some (r, μ2) := by
  have r15 : rfC v 15 = v + 7 := by rw [rf8 hv]; rfl
  have r16 : rfC v 16 = v + 13 := by rw [rf8 hv]; rfl
  have t5 : rfC (v + 13) 5 = v + 18 := rf1 h13 5
  have bW := hw.1.2.2.2.2.1.2
  have bC := hw.1.2.2.2.2.2.2
  have ew : μ1.1 (v + 7) 0 = nI (cW (bV μ1 v)) := hw.1.2.2.2.2.1.1
  have ew2 : μ2.1 1 4 = nI (cW (bV μ1 v)) := hr.1.2.2.2.2.1.trans hw.1.2.2.2.2.1.1
  have ec : μ1.1 (v + 13) 0 = nI (cC (bV μ1 v)) := hw.1.2.2.2.2.2.1
  have ec2 : μ2.1 1 5 = nI (cC (bV μ1 v)) := hr.1.2.2.2.2.2.1.trans hw.1.2.2.2.2.2.1
  have e8 : μ2.1 1 8 = bV μ1 v 0 6 := hr.1.2.2.2.2.2.2.2.2.1
  unfold fX2_holds fX12_holds
  simp (disch := omega) only [qm_0, aR_1, aR_2, aR_5, nI_toInt, nI_clamp, p_ck, r15, r16]
  rcases hrow with ⟨rfl, h0, h1⟩ | ⟨rfl, h0⟩ | ⟨ha, h0, h5, h2⟩
  · rw [if_pos rfl, h0, if_pos (by decide), h1]
    obtain ⟨e1, m1, e2, m2, q1, q2, rfl, rfl, hE⟩ := lp_rel (h1 := 2) (h2 := 2) (s1 := fX2_hasStruck_s2 rfC (v + 13) b) (s2 := fX12_hasCover_s2 rfM 0 b)
      (fun i τ1 l1 τ2 l2 => l1 = μ1 ∧ l2 = μ2 ∧ ∃ k, k + i = cC (bV μ1 v) ∧ τ1 = nI k ∧ τ2 = nI k)
      (fun e1 l1 e2 l2 => μ1 = l1 ∧ μ2 = l2 ∧ ((e1 = (20, 0) ∧ e2 = (27, 0)) ∨ (e1 = (28, 0) ∧ e2 = (35, 0))))
      (fun i τ1 l1 τ2 l2 hR => by
        obtain ⟨rfl, rfl, k, hk, rfl, rfl⟩ := hR
        unfold fX2_hasStruck_s2 fX12_hasCover_s2 fX12_coverRow
        rw [ec, qm_0, ec2, t5]
        by_cases hi : i = 0
        · rw [if_pos (show nI (cC (bV l1 v)) ≤ nI k by rw [n_le (by omega) (by omega)]; omega), if_pos (show nI (cC (bV l1 v)) ≤ nI k by rw [n_le (by omega) (by omega)]; omega)]
          exact ⟨_, _, _, _, rfl, rfl, Or.inr ⟨(by decide : ¬ 28 = 2), (by decide : ¬ 35 = 2), rfl, rfl, Or.inr ⟨rfl, rfl⟩⟩⟩
        · rw [if_neg (show ¬ nI (cC (bV l1 v)) ≤ nI k by rw [n_le (by omega) (by omega)]; omega), if_neg (show ¬ nI (cC (bV l1 v)) ≤ nI k by rw [n_le (by omega) (by omega)]; omega)]
          have z4 : l2.1 1 (199 + 5 * k + 4) = l1.1 (v + 18) k := hr.2.2.2.2.2.2 k 4 (by omega) (by omega)
          simp (disch := omega) only [mL_5, aL_199, aR_4, aR_1, p_bd, nI_toInt, nI_clamp, p_ck, z4]
          by_cases hq : l1.1 (v + 18) k = b
          · rw [if_pos hq, if_pos hq]
            exact ⟨_, _, _, _, rfl, rfl, Or.inr ⟨(by decide : ¬ 20 = 2), (by decide : ¬ 27 = 2), rfl, rfl, Or.inl ⟨rfl, rfl⟩⟩⟩
          · rw [if_neg hq, if_neg hq]
            exact ⟨_, _, _, _, rfl, rfl, Or.inl ⟨rfl, rfl, i - 1, by omega, rfl, rfl, k + 1, by omega, rfl, rfl⟩⟩)
      o_fuel (cC (bV μ1 v)) 0 μ1 0 μ2 (fu (by omega)) ⟨rfl, rfl, 0, by omega, rfl, rfl⟩
    unfold fX2_hasStruck fX12_hasCover
    rw [q1, q2]
    rcases hE with ⟨rfl, rfl⟩ | ⟨rfl, rfl⟩
    · exact ⟨1, Or.inr rfl, rfl, rfl⟩
    · exact ⟨0, Or.inl rfl, rfl, rfl⟩
  · rw [if_neg (by decide), if_pos rfl, h0, if_neg (by decide), if_pos (by decide), e8, show μ1.1 v 6 = bV μ1 v 0 6 from rfl]
    rcases hw.2.2.2.1 with h6 | h6
    · rw [h6, p_ck _ (Or.inl rfl), if_neg (by decide)]; exact ⟨0, Or.inl rfl, rfl, rfl⟩
    · rw [h6, p_ck _ (Or.inr rfl), if_pos rfl]; exact ⟨1, Or.inr rfl, rfl, rfl⟩
  · rw [h0, if_neg (show ¬ (2025 : Int32) - 2000 = 24 by decide), if_neg (show ¬ (2025 : Int32) - 2000 = 26 by decide), h5, h2, ew, ew2]
    rcases ha with rfl | rfl | rfl
    · rw [if_neg (show ¬ (60 : Int32) = 21 by decide), if_neg (show ¬ (60 : Int32) = 23 by decide), if_pos (show (60 : Int32) = 60 from rfl), if_pos (show (60 : Int32) = 60 from rfl)]
      by_cases hq : b ≤ nI (cW (bV μ1 v))
      · rw [if_pos hq, if_pos hq]; exact ⟨0, Or.inl rfl, rfl, rfl⟩
      · rw [if_neg hq, if_neg hq]; exact ⟨1, Or.inr rfl, rfl, rfl⟩
    · rw [if_neg (show ¬ (61 : Int32) = 21 by decide), if_neg (show ¬ (61 : Int32) = 23 by decide), if_neg (show ¬ (61 : Int32) = 60 by decide), if_neg (show ¬ (61 : Int32) = 62 by decide), if_neg (show ¬ (61 : Int32) = 60 by decide), if_neg (show ¬ (61 : Int32) = 62 by decide)]
      by_cases hq : nI (cW (bV μ1 v)) = b
      · rw [if_pos hq, if_pos hq]; exact ⟨1, Or.inr rfl, rfl, rfl⟩
      · rw [if_neg hq, if_neg hq]; exact ⟨0, Or.inl rfl, rfl, rfl⟩
    · rw [if_neg (show ¬ (62 : Int32) = 21 by decide), if_neg (show ¬ (62 : Int32) = 23 by decide), if_neg (show ¬ (62 : Int32) = 60 by decide), if_pos (show (62 : Int32) = 62 from rfl), if_neg (show ¬ (62 : Int32) = 60 by decide), if_pos (show (62 : Int32) = 62 from rfl)]
      by_cases hq : nI (cW (bV μ1 v)) ≤ b
      · rw [if_pos hq, if_pos hq]; exact ⟨0, Or.inl rfl, rfl, rfl⟩
      · rw [if_neg hq, if_neg hq]; exact ⟨1, Or.inr rfl, rfl, rfl⟩
end hd
