/-! ===== WEEKS: the rows one after the other ===== -/
section wl
variable {T : Nat → Int32} {n s h p k d c : Nat} {σ : Nat → Nat} {μC μM m1 m2 : o_Mem}
theorem wk_loop (hv : wkS T n μC μM s h p k d c σ m1 m2) (hn : n ≤ 300) : ∃ r l1 l2, o_lp 32 (fX10_accept_s32 rfC 140) o_fuel (1, 0) m1 = some ((116, (r, 0)), l1) ∧ o_lp 38 (fX12_weeks_s38 rfM 0) o_fuel 1 m2 = some ((57, 0), l2) ∧ pX μC μM l1 l2 ∧ ((r = 1 ∧ ∃ k d c σ, wkS T n μC μM s h p k d c σ l1 l2) ∨ (r = 0 ∧ fl l1 l2)) := by
  obtain ⟨e1, l1, e2, l2, q1, q2, r, rfl, rfl, hp, hr⟩ := lp_rel (h1 := 32) (h2 := 38) (s1 := fX10_accept_s32 rfC 140) (s2 := fX12_weeks_s38 rfM 0)
    (fun i τ1 k1 τ2 k2 => (∃ cc k d c σ, cc + i = 302 ∧ cc ≤ 301 ∧ τ1 = (1, nI cc) ∧ τ2 = 1 ∧ wkS T n μC μM s h p k d c σ k1 k2 ∧ (cc : Int) ≤ (k1.1 137 6).toInt) ∨ (τ1.1 = 0 ∧ τ2 = 0 ∧ pX μC μM k1 k2 ∧ fl k1 k2))
    (fun e1 k1 e2 k2 => ∃ r, e1 = (116, (r, 0)) ∧ e2 = (57, 0) ∧ pX μC μM k1 k2 ∧ ((r = 1 ∧ ∃ k d c σ, wkS T n μC μM s h p k d c σ k1 k2) ∨ (r = 0 ∧ fl k1 k2)))
    (fun i τ1 k1 τ2 k2 hR => by
      rcases hR with ⟨cc, k, d, c, σ, hi, hc, rfl, rfl, hv, hst⟩ | ⟨ht1, rfl, hp, hf⟩
      · obtain ⟨a, q, haq, hqn, h6, h13, hk⟩ := hv.1.2.1
        have hca : cc ≤ a := by rw [h6, nI_toInt (by omega)] at hst; omega
        have hpart := wk_one hv
        unfold fX10_accept_s32 fX12_weeks_s38
        rw [rc140_0, if_neg (show ¬ 300 < nI cc from fun z => by have := (n_lt (a := 300) (b := cc) (by omega) (by omega)).mp z; omega), if_neg (show ¬ (1 : Int32) = 0 by decide), if_neg (show ¬ (1 : Int32) = 0 by decide)]
        by_cases hk0 : k1.1 137 7 = 0
        · have hk0' : k2.1 0 12 = 0 := by
            rcases hk with ⟨-, z, -⟩ | ⟨z, -⟩ | ⟨z, -⟩ | ⟨z, -⟩ | ⟨z, -⟩
            · exact z
            all_goals (rw [hk0] at z; exact absurd z (by decide))
          rw [if_pos hk0, if_pos hk0']
          exact ⟨_, _, _, _, rfl, rfl, Or.inr ⟨show ¬ 116 = 32 by decide, show ¬ 57 = 38 by decide, 1, rfl, rfl, hv.2.2.2.2, Or.inl ⟨rfl, k, d, c, σ, hv⟩⟩⟩
        · have hk0' : ¬ k2.1 0 12 = 0 := by
            rcases hk with ⟨z, -⟩ | ⟨-, z, -⟩ | ⟨-, z, -⟩ | ⟨-, z, -⟩ | ⟨-, z, -⟩
            · exact absurd z hk0
            all_goals (rw [z]; decide)
          have gt := gX_turn rfC 140 (k1.1 137 8) k1 (nI cc)
          have gs := gX_step rfC 140 k1
          rw [rc140_0] at gt gs
          rw [if_neg hk0, if_neg hk0', gt, ← gs, aR_1]
          obtain ⟨r, l1, l2, x1, x2, hp, hr⟩ := hpart
          have xs : (if k1.1 137 8 = 25 then o_bd (fX10_takeEnd rfC 140 k1) fun r2 μ2 => some ((32, (r2, nI (cc + 1))), μ2) else o_bd (gX10_takeStep rfC 140 k1) fun r1 μ1 => some ((32, (r1, nI (cc + 1))), μ1)) = some ((32, (r, nI (cc + 1))), l1) := by
            by_cases c0 : k1.1 137 8 = 25
            · rw [if_pos c0] at x1 ⊢; rw [x1, p_bd]
            · rw [if_neg c0] at x1 ⊢; rw [x1, p_bd]
          refine ⟨_, _, _, _, xs, by rw [x2]; rfl, Or.inl ⟨rfl, rfl, ?_⟩⟩
          rcases hr with ⟨rfl, hlt, k', d', c', σ', hv'⟩ | ⟨rfl, hf⟩
          · exact ⟨i - 1, by omega, Or.inl ⟨cc + 1, k', d', c', σ', by omega, by omega, rfl, rfl, hv', by omega⟩⟩
          · exact ⟨0, by omega, Or.inr ⟨rfl, rfl, hp, hf⟩⟩
      · refine ⟨(116, (0, 0)), k1, (57, 0), k2, ?_, ?_, Or.inr ⟨show ¬ 116 = 32 by decide, show ¬ 57 = 38 by decide, 0, rfl, rfl, hp, Or.inr ⟨rfl, hf⟩⟩⟩
        · unfold fX10_accept_s32
          rw [if_pos ht1, ht1]
          split <;> rfl
        · unfold fX12_weeks_s38
          rw [if_pos rfl])
    o_fuel 302 (1, 0) m1 1 m2 (fu (by omega)) (Or.inl ⟨0, k, d, c, σ, by omega, by omega, rfl, rfl, hv, by
      obtain ⟨a, q, haq, hqn, h6, -⟩ := hv.1.2.1
      have h9 := hv.1.1.1
      rw [h6, nI_toInt (by omega)]
      omega⟩)
  exact ⟨r, l1, l2, q1, q2, hp, hr⟩
/-- the reference's copy of WEEKS -/
theorem wk_copy (m : o_Mem) : ∃ m', o_lp 103 (fX12_weeks_s103 rfM 0) o_fuel 259 m = some ((132, 0), m') ∧ (∀ i, i ≠ 1 → m'.1 i = m.1 i) ∧ m'.2 = m.2 ∧ ∀ q, m'.1 1 q = if 259 ≤ q ∧ q < 619 then m.1 1 (2504 + q) else m.1 1 q := by
  obtain ⟨e1, m', q1, rfl, a1, a2, a3⟩ := lp_one (h := 103) (s := fX12_weeks_s103 rfM 0)
    (fun i τ μ => ∃ j, j + i = 619 ∧ 259 ≤ j ∧ τ = nI j ∧ (∀ i, i ≠ 1 → μ.1 i = m.1 i) ∧ μ.2 = m.2 ∧ ∀ q, μ.1 1 q = if 259 ≤ q ∧ q < j then m.1 1 (2504 + q) else m.1 1 q)
    (fun e μ => e = (132, 0) ∧ (∀ i, i ≠ 1 → μ.1 i = m.1 i) ∧ μ.2 = m.2 ∧ ∀ q, μ.1 1 q = if 259 ≤ q ∧ q < 619 then m.1 1 (2504 + q) else m.1 1 q)
    (fun i τ μ hR => by
      obtain ⟨j, hj, h1j, rfl, h1, h2, h3⟩ := hR
      unfold fX12_weeks_s103
      rw [qm_0, show (619 : Int32) = nI 619 from rfl]
      by_cases hi : i = 0
      · rw [if_pos ((n_le (by omega) (by omega)).mpr (by omega))]
        exact ⟨_, _, rfl, Or.inr ⟨show ¬ 132 = 103 by decide, rfl, h1, h2, fun q => by rw [h3 q, show j = 619 by omega]⟩⟩
      · rw [if_neg (fun z => by rw [n_le (by omega) (by omega)] at z; omega)]
        simp (disch := omega) only [aL_2504, nI_toInt, nI_clamp, p_ck, p_seq, aR_1]
        refine ⟨_, _, rfl, Or.inl ⟨rfl, i - 1, by omega, j + 1, by omega, by omega, rfl, fun i hi => by rw [p_wI_o hi]; exact h1 i hi, h2, fun q => ?_⟩⟩
        rw [p_wI1]
        by_cases e : q = j
        · rw [if_pos ⟨rfl, e⟩, if_pos (by omega), h3, if_neg (by omega), e]
        · rw [if_neg (fun z => e z.2), h3 q]
          by_cases e2 : 259 ≤ q ∧ q < j
          · rw [if_pos e2, if_pos (by omega)]
          · rw [if_neg e2, if_neg (by omega)])
    o_fuel 360 259 m (fu (by omega)) ⟨259, by omega, by omega, rfl, fun i _ => rfl, rfl, fun q => by rw [if_neg (by omega)]⟩
  exact ⟨m', q1, a1, a2, a3⟩
end wl
