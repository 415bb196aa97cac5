/-! ===== one DAY, many DAYS: day ===== -/
theorem mid_0 {g : Nat → Nat → Int32} {a : Nat → Int32} (hw : wfV g) (hr : vR g a) (hd : (g 0 5).toInt ≤ 9998) : mid (updG g 13 0 0) (upd a 5 0) := by
  obtain ⟨hx, hsum⟩ := wfX_of hw
  have hst : sta g (updG g 13 0 0) := ⟨fun _ _ => rfl, rfl, rfl, rfl, rfl, rfl, rfl⟩
  have h13 : updG g 13 0 0 13 0 = nI 0 := rfl
  have hC : cC (updG g 13 0 0) = 0 := by unfold cC; rw [h13, nI_clamp (by omega)]
  have bS := hx.1.1.2
  have bW := hx.1.2.2.2.2.1.2
  refine ⟨wfX_gen hx hst hx.2.2.1 bW hx.1.2.2.2.2.1.1 hx.2.2.2.2.2.2.2.2.1 (by omega) h13 (fun k hk => by omega) (fun k hk => (hx.2.2.2.2.2.2.2.2.2.2 k hk).1), ?_, ?_, hd⟩
  · refine vR_gen hx.1 hr hst (fun k hk => u_ne (by omega)) bW hx.1.2.2.2.2.1.1 (Nat.zero_le _) h13 ?_ u_s ?_ ?_ ?_ ?_ (fun k hk => ?_) (fun k w hk hw => ?_) (fun k w hk hw => by omega)
    · rw [u_ne (by omega), hr.1.2.2.2.2.1]; exact hx.1.2.2.2.2.1.1
    · rw [u_ne (by omega)]; exact hr.1.2.2.2.2.2.2.2.1
    · rw [u_ne (by omega)]; exact hr.1.2.2.2.2.2.2.2.2.2.1
    · rw [u_ne (by omega)]; exact hr.1.2.2.2.2.2.2.2.2.2.2.1
    · rw [u_ne (by omega), wsum_c (g := g) (g' := updG g 13 0 0) (fun _ _ => rfl) (fun _ _ => rfl) _ bS]; exact hr.1.2.2.2.2.2.2.2.2.2.2.2
    · rw [u_ne (by omega)]; exact (hr.2.1 k hk).2
    · rw [u_ne (by omega), updG_j (by omega)]; exact hr.2.2.2.2.2.1 k w hk hw
  · rw [hC, (sta_c hst).1, ssum_c (g := g) (g' := updG g 13 0 0) (fun _ _ => rfl) _ bS]
    show ssum g (cS g) ≤ 12 * (g 0 5).toInt + 0
    omega
theorem mid_w {g : Nat → Nat → Int32} {a : Nat → Int32} (hm : mid g a) : mid (updG g 7 0 0) (upd a 4 0) ∧ cC (updG g 7 0 0) = cC g := by
  obtain ⟨hx, hr, hsum, hd⟩ := hm
  have hst : sta g (updG g 7 0 0) := ⟨fun _ _ => rfl, rfl, rfl, rfl, rfl, rfl, rfl⟩
  have h7 : updG g 7 0 0 7 0 = nI 0 := rfl
  have hC : cC (updG g 7 0 0) = cC g := rfl
  have bS := hx.1.1.2
  have bC := hx.1.2.2.2.2.2.2
  refine ⟨⟨wfX_gen hx hst hx.2.2.1 (Nat.zero_le _) h7 (fun k hk => by omega) bC hx.1.2.2.2.2.2.1 hx.2.2.2.2.2.2.2.2.2.1 (fun k hk => (hx.2.2.2.2.2.2.2.2.2.2 k hk).1), ?_, ?_, hd⟩, hC⟩
  · refine vR_gen hx.1 hr hst (fun k hk => u_ne (by omega)) (Nat.zero_le _) h7 bC hx.1.2.2.2.2.2.1 u_s ?_ ?_ ?_ ?_ ?_ (fun k hk => ?_) (fun k w hk hw => by omega) (fun k w hk hw => ?_)
    · rw [u_ne (by omega), hr.1.2.2.2.2.2.1]; exact hx.1.2.2.2.2.2.1
    · rw [u_ne (by omega)]; exact hr.1.2.2.2.2.2.2.2.1
    · rw [u_ne (by omega)]; exact hr.1.2.2.2.2.2.2.2.2.2.1
    · rw [u_ne (by omega)]; exact hr.1.2.2.2.2.2.2.2.2.2.2.1
    · rw [u_ne (by omega), wsum_c (g := g) (g' := updG g 7 0 0) (fun _ _ => rfl) (fun _ _ => rfl) _ bS]; exact hr.1.2.2.2.2.2.2.2.2.2.2.2
    · rw [u_ne (by omega)]; exact (hr.2.1 k hk).2
    · rw [u_ne (by omega), updG_j (by omega)]; exact hr.2.2.2.2.2.2 k w hk hw
  · rw [hC, (sta_c hst).1, ssum_c (g := g) (g' := updG g 7 0 0) (fun _ _ => rfl) _ bS]; exact hsum
theorem mid_f {g : Nat → Nat → Int32} {a : Nat → Int32} (hm : mid g a) : wfV (updG g 0 5 (g 0 5 + 1)) ∧ vR (updG g 0 5 (g 0 5 + 1)) (upd a 7 (a 7 + 1)) ∧ (g 0 5 + 1).toInt = (g 0 5).toInt + 1 ∧ sta g (updG g 0 5 (g 0 5 + 1)) := by
  obtain ⟨hx, hr, hsum, hd⟩ := hm
  have hdt := hx.2.2.1
  have e1 : (g 0 5 + 1).toInt = (g 0 5).toInt + 1 := by
    rw [Int32.toInt_add, c32_1]
    apply Int.bmod_eq_of_le <;> omega
  have e5 : updG g 0 5 (g 0 5 + 1) 0 5 = g 0 5 + 1 := rfl
  have hst : sta g (updG g 0 5 (g 0 5 + 1)) := ⟨fun k hk => updG_k (by omega), rfl, rfl, rfl, rfl, rfl, rfl⟩
  have bS := hx.1.1.2
  have bC := hx.1.2.2.2.2.2.2
  have bW := hx.1.2.2.2.2.1.2
  refine ⟨wfV_of (wfX_gen hx hst (by rw [e5, e1]; omega) bW hx.1.2.2.2.2.1.1 hx.2.2.2.2.2.2.2.2.1 bC hx.1.2.2.2.2.2.1 hx.2.2.2.2.2.2.2.2.2.1 (fun k hk => (hx.2.2.2.2.2.2.2.2.2.2 k hk).1)) ?_, ?_, e1, hst⟩
  · rw [(sta_c hst).1, ssum_c (g := g) (g' := updG g 0 5 (g 0 5 + 1)) (fun _ _ => rfl) _ bS, e5, e1]; omega
  · refine vR_gen hx.1 hr hst (fun k hk => u_ne (by omega)) bW hx.1.2.2.2.2.1.1 bC hx.1.2.2.2.2.2.1 ?_ ?_ ?_ ?_ ?_ ?_ (fun k hk => ?_) (fun k w hk hw => ?_) (fun k w hk hw => ?_)
    · rw [u_ne (by omega), hr.1.2.2.2.2.1]; exact hx.1.2.2.2.2.1.1
    · rw [u_ne (by omega), hr.1.2.2.2.2.2.1]; exact hx.1.2.2.2.2.2.1
    · rw [u_s, hr.1.2.2.2.2.2.2.2.1]; rfl
    · rw [u_ne (by omega)]; exact hr.1.2.2.2.2.2.2.2.2.2.1
    · rw [u_ne (by omega)]; exact hr.1.2.2.2.2.2.2.2.2.2.2.1
    · rw [u_ne (by omega), wsum_c (g := g) (g' := updG g 0 5 (g 0 5 + 1)) (fun _ _ => rfl) (fun _ _ => rfl) _ bS]; exact hr.1.2.2.2.2.2.2.2.2.2.2.2
    · rw [u_ne (by omega)]; exact (hr.2.1 k hk).2
    · rw [u_ne (by omega), updG_j (by omega)]; exact hr.2.2.2.2.2.1 k w hk hw
    · rw [u_ne (by omega), updG_j (by omega)]; exact hr.2.2.2.2.2.2 k w hk hw
section ds
variable {v : Nat} {μC μM : o_Mem}
theorem day_one (hv : kdC v = .inl 8) (h7 : kdC (v + 7) = .inl 1) (h13 : kdC (v + 13) = .inl 1) {μ1 μ2 : o_Mem} (hw : wfV (bV μ1 v)) (hr : vR (bV μ1 v) (μ2.1 1)) (hd : (bV μ1 v 0 5).toInt ≤ 9998) (x2 : Int32) {n k : Nat} (hk : k < n) (hn : n ≤ 100) : ∃ N m1 m2, fX8_goDays_s7 rfC v (nI n) x2 (nI k) μ1 = some ((7, nI (k + 1)), m1) ∧ fX12_dayGoes rfM 0 μ2 = some (nI N, m2) ∧ Fr v μ1 μ2 m1 m2 ∧ wfV (bV m1 v) ∧ vR (bV m1 v) (m2.1 1) ∧ sta (bV μ1 v) (bV m1 v) ∧ (bV m1 v 0 5).toInt = (bV μ1 v 0 5).toInt + 1 ∧ bV m1 v 0 7 = bV μ1 v 0 7 + nI N := by
  have r15 : rfC v 15 = v + 7 := by rw [rf8 hv]; rfl
  have r16 : rfC v 16 = v + 13 := by rw [rf8 hv]; rfl
  have hm0 := mid_0 hw hr hd
  have ez : bV (o_wI μ1 (v + 13) 0 0) v = updG (bV μ1 v) 13 0 0 := bV_wv μ1 v 13 0 0
  have hto : ∀ k, k < cW (bV μ1 v) → 0 ≤ (bV μ1 v 9 k).toInt := fun k hk => (hw.2.2.2.2.2.2.2.2.1 k hk).2.1.1
  have hlt0 : ltC (updG (bV μ1 v) 13 0 0 9) 0 (cW (updG (bV μ1 v) 13 0 0)) = 0 := ltC_0 _ _ hto
  have hst0 : sta (bV μ1 v) (updG (bV μ1 v) 13 0 0) := ⟨fun _ _ => rfl, rfl, rfl, rfl, rfl, rfl, rfl⟩
  have f0 : Fr v μ1 μ2 (o_wI μ1 (v + 13) 0 0) (o_wI μ2 1 5 0) := ⟨fun i hi => p_wI_o (by omega), rfl, fun i hi => p_wI_o hi, rfl, fun k hk => u_ne (by omega)⟩
  obtain ⟨n1, n2, b1, b2, b3⟩ := dy_all (A := bV μ1 v 0 7) (μC := μ1) (μM := μ2) hv h7 h13 hm0.1.1 (nI n) x2 (nI k) (μ1 := o_wI μ1 (v + 13) 0 0) (μ2 := o_wI μ2 1 5 0) ⟨f0, by rw [ez]; exact hm0, by rw [ez]; exact sta_rf _, fun j _ _ => by rw [ez], by rw [ez], by rw [ez, hlt0]; show bV μ1 v 0 7 = bV μ1 v 0 7 + 0; rw [o_add0], by rw [ez, hlt0]; unfold cC; rw [updG_s]; rfl⟩
  generalize ltC (updG (bV μ1 v) 13 0 0 9) (cP (updG (bV μ1 v) 13 0 0)) (cW (updG (bV μ1 v) 13 0 0)) = N at b3
  obtain ⟨f1, hm1, hst1, hrow, h5, hA, hC⟩ := b3
  have hN : N ≤ 12 := by rw [← hC]; exact hm1.1.1.2.2.2.2.2.2
  have hw1 := mid_w hm1
  have ew : bV (o_wI n1 (v + 7) 0 0) v = updG (bV n1 v) 7 0 0 := bV_wv n1 v 7 0 0
  have f2 : Fr v n1 n2 (o_wI n1 (v + 7) 0 0) (o_wI n2 1 4 0) := ⟨fun i hi => p_wI_o (by omega), rfl, fun i hi => p_wI_o hi, rfl, fun k hk => u_ne (by omega)⟩
  obtain ⟨l1, l2, c1, c2, c3⟩ := an_all (g0 := updG (bV n1 v) 7 0 0) (μC := μ1) (μM := μ2) hv h7 h13 hN (μ1 := o_wI n1 (v + 7) 0 0) (μ2 := o_wI n2 1 4 0) ⟨Fr_tr f1 f2, by rw [ew]; exact hw1.1, by rw [ew]; exact sta_rf _, by rw [ew], by rw [ew], by rw [ew]; exact hw1.2.trans hC⟩
  obtain ⟨f3, hm3, hst3, h53, hA3, hC3⟩ := c3
  have hf := mid_f hm3
  have ed : bV (o_wI l1 v 5 (l1.1 v 5 + 1)) v = updG (bV l1 v) 0 5 (bV l1 v 0 5 + 1) := bV_wv0 l1 v 5 _
  have e25 : l2.1 1 5 = nI N := by rw [hm3.2.1.1.2.2.2.2.2.1, ← hC3]; exact hm3.1.1.2.2.2.2.2.1
  refine ⟨N, o_wI l1 v 5 (l1.1 v 5 + 1), o_wI l2 1 7 (l2.1 1 7 + 1), ?_, ?_, Fr_tr f3 ⟨fun i hi => p_wI_o (by omega), rfl, fun i hi => p_wI_o hi, rfl, fun k hk => u_ne (by omega)⟩, ?_, ?_, ?_, ?_, ?_⟩
  · unfold fX8_goDays_s7
    rw [if_neg (show ¬ nI n ≤ nI k by rw [n_le (by omega) (by omega)]; omega), r16, r15, p_seq, b1, p_bd, if_pos rfl, p_seq, c1, p_bd, p_seq, aR_1]
  · unfold fX12_dayGoes
    rw [qm_0, p_seq, b2, p_bd, if_pos rfl, p_seq, c2, p_bd, if_pos rfl, p_seq, p_wI1, if_neg (by omega), e25]
  · rw [ed]; exact hf.1
  · rw [ed]; exact hf.2.1
  · rw [ed]
    exact sta_tr hst0 (sta_tr hst1 (sta_tr (show sta (bV n1 v) (updG (bV n1 v) 7 0 0) from ⟨fun _ _ => rfl, rfl, rfl, rfl, rfl, rfl, rfl⟩) (sta_tr hst3 hf.2.2.2)))
  · rw [ed, show updG (bV l1 v) 0 5 (bV l1 v 0 5 + 1) 0 5 = bV l1 v 0 5 + 1 from rfl, hf.2.2.1, h53, show updG (bV n1 v) 7 0 0 0 5 = bV n1 v 0 5 from rfl, h5]; rfl
  · rw [ed, show updG (bV l1 v) 0 5 (bV l1 v 0 5 + 1) 0 7 = bV l1 v 0 7 from rfl, hA3, show updG (bV n1 v) 7 0 0 0 7 = bV n1 v 0 7 from rfl, hA]
theorem i32_cancel (a b : Int32) : a + b - a = b := by
  rw [Int32.add_comm, Int32.add_sub_cancel]
theorem e_goDays (hv : kdC v = .inl 8) (h7 : kdC (v + 7) = .inl 1) (h13 : kdC (v + 13) = .inl 1) {μ1 μ2 : o_Mem} (hw : wfV (bV μ1 v)) (hr : vR (bV μ1 v) (μ2.1 1)) {n : Nat} (hn : n ≤ 100) (hd : (bV μ1 v 0 5).toInt + n ≤ 9999) : ∃ r m1 m2, fX8_goDays rfC v (nI n) μ1 = some (r, m1) ∧ fX12_daysGo rfM 0 (nI n) μ2 = some (r, m2) ∧ Fr v μ1 μ2 m1 m2 ∧ wfV (bV m1 v) ∧ vR (bV m1 v) (m2.1 1) ∧ sta (bV μ1 v) (bV m1 v) := by
  obtain ⟨e1, m1, e2, m2, q1, q2, rfl, S, rfl, f1, hw1, hr1, hst1, hA1⟩ := lp_rel (h1 := 7) (h2 := 4) (s1 := fX8_goDays_s7 rfC v (nI n) (μ1.1 v 7)) (s2 := fX12_daysGo_s4 rfM 0 (nI n))
    (fun i τ1 l1 τ2 l2 => ∃ k S, k + i = n ∧ τ1 = nI k ∧ τ2 = (S, nI k) ∧ Fr v μ1 μ2 l1 l2 ∧ wfV (bV l1 v) ∧ vR (bV l1 v) (l2.1 1) ∧ sta (bV μ1 v) (bV l1 v) ∧ (bV l1 v 0 5).toInt = (bV μ1 v 0 5).toInt + k ∧ bV l1 v 0 7 = bV μ1 v 0 7 + S)
    (fun e1 l1 e2 l2 => e1 = (72, 0) ∧ ∃ S, e2 = (22, (S, 0)) ∧ Fr v μ1 μ2 l1 l2 ∧ wfV (bV l1 v) ∧ vR (bV l1 v) (l2.1 1) ∧ sta (bV μ1 v) (bV l1 v) ∧ bV l1 v 0 7 = bV μ1 v 0 7 + S)
    (fun i τ1 l1 τ2 l2 hR => by
      obtain ⟨k, S, hk, rfl, rfl, f1, hw1, hr1, hst1, hd1, hA1⟩ := hR
      by_cases hi : i = 0
      · refine ⟨(72, 0), l1, (22, (S, 0)), l2, ?_, ?_, Or.inr ⟨(by decide : ¬ 72 = 7), (by decide : ¬ 22 = 4), rfl, S, rfl, f1, hw1, hr1, hst1, hA1⟩⟩
        · unfold fX8_goDays_s7
          rw [if_pos (show nI n ≤ nI k by rw [n_le (by omega) (by omega)]; omega)]
        · unfold fX12_daysGo_s4
          rw [if_pos (show nI n ≤ nI k by rw [n_le (by omega) (by omega)]; omega)]
      · obtain ⟨N, n1, n2, b1, b2, b3, b4, b5, b6, b7, b8⟩ := day_one hv h7 h13 hw1 hr1 (by omega) (μ1.1 v 7) (n := n) (k := k) (by omega) hn
        refine ⟨(7, nI (k + 1)), n1, (4, (S + nI N, nI (k + 1))), n2, b1, ?_, Or.inl ⟨rfl, rfl, i - 1, by omega, k + 1, S + nI N, by omega, rfl, rfl, Fr_tr f1 b3, b4, b5, sta_tr hst1 b6, by omega, ?_⟩⟩
        · unfold fX12_daysGo_s4
          rw [if_neg (show ¬ nI n ≤ nI k by rw [n_le (by omega) (by omega)]; omega), b2, p_bd, aR_1]
        · rw [b8, hA1, Int32.add_assoc])
    o_fuel n 0 μ1 (0, 0) μ2 (fu (by omega)) ⟨0, 0, by omega, rfl, rfl, Fr_rf _ _ _, hw, hr, sta_rf _, by omega, by rw [o_add0]⟩
  refine ⟨S, m1, m2, ?_, ?_, f1, hw1, hr1, hst1⟩
  · unfold fX8_goDays
    rw [q1, p_bd, if_pos rfl, show m1.1 v 7 = μ1.1 v 7 + S from hA1, i32_cancel]
  · unfold fX12_daysGo
    rw [q2, p_bd, if_pos rfl]
end ds
section dd
variable {μC μM : o_Mem}
theorem hasD {μ : o_Mem} {v : Nat} {n : Nat} (rf : Nat → Nat → Nat) (hn : n ≤ 100) (hd : 0 ≤ (bV μ v 0 5).toInt ∧ (bV μ v 0 5).toInt ≤ 9999) : fX8_hasDays rf v (nI n) μ = some (bI ((bV μ v 0 5).toInt + n ≤ 9999), μ) := by
  have e : (μ.1 v 5 + nI n).toInt = (bV μ v 0 5).toInt + n := by
    show (bV μ v 0 5 + nI n).toInt = _
    rw [Int32.toInt_add, nI_toInt (by omega)]
    exact Int.bmod_eq_of_le (by omega) (by omega)
  unfold fX8_hasDays
  simp only [i32_lt, e, c32_9999]
  by_cases h : (bV μ v 0 5).toInt + n ≤ 9999
  · rw [if_neg (by omega), bI_t h]
  · rw [if_pos (by omega), bI_f h]
theorem pu_day (h : Inv μC μM) (x : Int32) : o_Eq2 (fX11_day rfC 0 x μC) (fX12_day rfM 0 x μM) Inv := by
  obtain ⟨hw, hr⟩ := Inv_v h
  have hdt := hw.2.2.1
  unfold fX11_day fX12_day
  simp only [rc0_4, qm_0, e11_within, e12_isFrom, p_bd, bI_if, i64_of, c64_1, c64_99]
  by_cases hx : 1 ≤ x.toInt ∧ x.toInt ≤ 99
  · rw [if_pos hx, if_pos hx]
    obtain ⟨n, hn, hn2, rfl⟩ := rg_nI (x := x) (n := 100) (by omega)
    have e7 : μM.1 1 7 = bV μC 10 0 5 := hr.1.2.2.2.2.2.2.2.1
    have e : (bV μC 10 0 5 + nI n).toInt = (bV μC 10 0 5).toInt + n := by
      rw [Int32.toInt_add, nI_toInt (by omega)]
      exact Int.bmod_eq_of_le (by omega) (by omega)
    rw [hasD rfC (by omega) hdt, p_bd, bI_if, e7]
    simp only [i32_le, e, c32_9999]
    by_cases h9 : (bV μC 10 0 5).toInt + n ≤ 9999
    · rw [if_pos h9, if_pos h9]
      obtain ⟨r, m1, m2, q1, q2, f1, hw1, hr1, hst1⟩ := e_goDays k10 k17 k23 hw hr (n := n) (by omega) h9
      obtain ⟨cs, ch, cp, -⟩ := sta_c hst1
      rw [q1, q2, p_bd, p_bd, e11_gives, e12_gives, p_bd, p_bd]
      exact ⟨r, _, _, rfl, rfl, Inv_st 0 (Inv_val h (fun i hi => f1.1 i (by omega)) f1.2.1 f1.2.2.1 f1.2.2.2.1 f1.2.2.2.2 cs ch cp hw1 hr1)⟩
    · rw [if_neg h9, if_neg h9]; exact eq2_st h _ _ rfl rfl
  · rw [if_neg hx, if_neg hx]; exact eq2_st h _ _ rfl rfl
end dd
