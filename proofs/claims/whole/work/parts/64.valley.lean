/-! ===== valley ===== -/
section va
variable {T : Nat → Int32} {n s h p l w : Nat} {μC μM m1 m2 l1 l2 : o_Mem}
theorem vs_w (hv : vSt T n μC μM s h p l w m1 m2) (W : wF m1 m2 l1 l2) (hs : stT T n l1 l2) : vSt T n μC μM s h p l w l1 l2 := by
  refine ⟨hs, nx_c hv.2.1 (fun j hj => ?_) (fun k hk => ?_) (fun k hk => ?_) (fun k hk => ?_), pV_w hv.2.2 W⟩
  · funext k; show l1.1 (30 + j) k = m1.1 (30 + j) k; rw [W.1 _ (by omega)]
  · show l2.1 1 (2504 + k) = m2.1 1 (2504 + k); rw [W.2.2.2.1 1 (by omega)]
  · rw [W.2.2.1 49 (by omega)]
  · rw [W.2.2.2.2.2]
/-- what comes of a part with its end -/
def paO (T : Nat → Int32) (n : Nat) (μC μM : o_Mem) (b : Int) (A B : Option (Int32 × o_Mem)) : Prop := ∃ r l1 l2, A = some (r, l1) ∧ B = some (r, l2) ∧ pV μC μM l1 l2 ∧ ((r = 1 ∧ b < (l1.1 137 6).toInt ∧ ∃ s h p l w, vSt T n μC μM s h p l w l1 l2) ∨ (r = 0 ∧ fl l1 l2))
theorem it_close {A B : Option (Int32 × o_Mem)} (hi : itO T n μC μM A B) : paO T n μC μM (μC.1 137 6).toInt A (o_bd B fun r μ => fX12_valleyPart_j162 rfM 0 r μ) := by
  rcases hi with ⟨l1, l2, rfl, rfl, hp, hf⟩ | ⟨s, h, p, l, w, k1, k2, rfl, rfl, hv⟩
  · exact ⟨0, l1, l2, rfl, rfl, hp, Or.inr ⟨rfl, hf⟩⟩
  · obtain ⟨r, l1, l2, q1, q2, W, hr⟩ := w_close hv.1
    unfold fX12_valleyPart_j162
    rw [q1, p_bd, p_bd, if_neg (show ¬ (1 : Int32) = 0 by decide), q2, p_bd]
    rcases hr with ⟨rfl, hs, hlt⟩ | ⟨rfl, hf⟩
    · rw [if_neg (show ¬ (1 : Int32) = 0 by decide)]
      have := hv.2.2.2.2.2
      exact ⟨1, l1, l2, rfl, rfl, pV_w hv.2.2 W, Or.inl ⟨rfl, by omega, s, h, p, l, w, vs_w hv W hs⟩⟩
    · rw [if_pos rfl]
      exact ⟨0, l1, l2, rfl, rfl, pV_w hv.2.2 W, Or.inr ⟨rfl, hf⟩⟩
/-- one part of a VALLEY -/
theorem vy_part (hv : vSt T n μC μM s h p l w m1 m2) : paO T n μC μM (μC.1 137 6).toInt (if m1.1 137 8 = 0 then fX9_takeStrike rfC 139 m1 else if m1.1 137 8 = 2 then fX9_takeHand rfC 139 m1 else if m1.1 137 8 = 3 then fX9_takePerson rfC 139 m1 else if m1.1 137 8 = 4 then fX9_takeLaw rfC 139 m1 else if m1.1 137 8 = 10 then fX9_takeActs rfC 139 m1 else if m1.1 137 8 = 13 then fX9_takeLetter rfC 139 m1 else if m1.1 137 8 = 14 then fX9_takeOdds rfC 139 m1 else fX4_fail rfC 137 2 m1) (fX12_valleyPart rfM 0 m2) := by
  have hst := hv.1
  have h9 := hst.1.1
  obtain ⟨y, hy, hk⟩ := iw_tok hst.1 hst.2.1
  have adv_of : ∀ c, c < 27 → m1.1 137 8 = nI c → adv n m1 m2 := fun c hc he => by
    obtain ⟨p, q, hpq, hqn, h6, h13, hk⟩ := hst.2.1
    rcases hk with ⟨-, -, k3⟩ | ⟨-, -, -, k4, k5, -⟩ | ⟨-, -, k3, -⟩ | ⟨-, -, k3, -⟩ | ⟨-, -, k3⟩
    · rw [k3] at he; exact absurd he.symm (nI_nm1 (by omega))
    · exact ⟨q, hqn, k4, k5, le6 h6 hpq (by omega)⟩
    · rw [k3] at he; exact absurd he.symm (nI_nm1 (by omega))
    · rw [k3] at he; exact absurd he.symm (nI_nm1 (by omega))
    · rw [k3] at he; exact absurd he.symm (nI_nm1 (by omega))
  unfold fX12_valleyPart
  rw [hy, p_bd]
  have k0 : m1.1 137 8 = 0 ↔ y = 0 := kR_eq hk (c := 0) (by omega)
  have k2 : m1.1 137 8 = 2 ↔ y = 1 := kR_eq hk (c := 2) (by omega)
  have k3 : m1.1 137 8 = 3 ↔ y = 2 := kR_eq hk (c := 3) (by omega)
  have k4 : m1.1 137 8 = 4 ↔ y = 3 := kR_eq hk (c := 4) (by omega)
  have k10 : m1.1 137 8 = 10 ↔ y = 4 := kR_eq hk (c := 10) (by omega)
  have k13 : m1.1 137 8 = 13 ↔ y = 5 := kR_eq hk (c := 13) (by omega)
  have k14 : m1.1 137 8 = 14 ↔ y = 6 := kR_eq hk (c := 14) (by omega)
  by_cases c0 : m1.1 137 8 = 0
  · rw [if_pos c0, if_pos (k0.mp c0)]
    exact it_close (it_strike hv (adv_of 0 (by omega) c0))
  rw [if_neg c0, if_neg (fun z => c0 (k0.mpr z))]
  by_cases c2 : m1.1 137 8 = 2
  · rw [if_pos c2, if_pos (k2.mp c2)]
    have := it_close (it_hand hv (adv_of 2 (by omega) c2))
    have e : (o_bd (o_bd (fX12_newOne rfM 0 1 4 6 m2) fun r μ => some (r, o_wI μ 1 2505 (μ.1 1 2505 + (if r = 0 then 0 else 1)))) fun r μ => fX12_valleyPart_j162 rfM 0 r μ) = (o_bd (fX12_newOne rfM 0 1 4 6 m2) fun r3 μ3 => if r3 = 0 then fX12_valleyPart_j83 rfM 0 r3 (rfM 0 0) 2505 (μ3.1 (rfM 0 0) 2505) 0 μ3 else fX12_valleyPart_j83 rfM 0 r3 (rfM 0 0) 2505 (μ3.1 (rfM 0 0) 2505) 1 μ3) := by
      cases fX12_newOne rfM 0 1 4 6 m2 with
      | none => rfl
      | some x =>
        obtain ⟨r, μ⟩ := x
        rw [p_bd, p_bd, p_bd]
        unfold fX12_valleyPart_j83
        rw [qm_0]
        by_cases hr : r = 0
        · rw [if_pos hr, if_pos hr, p_ck _ (by decide), p_seq]; rfl
        · rw [if_neg hr, if_neg hr, p_ck _ (by decide), p_seq]; rfl
    rw [e] at this
    exact this
  rw [if_neg c2, if_neg (fun z => c2 (k2.mpr z))]
  by_cases c3 : m1.1 137 8 = 3
  · rw [if_pos c3, if_pos (k3.mp c3)]
    exact it_close (it_person hv (adv_of 3 (by omega) c3))
  rw [if_neg c3, if_neg (fun z => c3 (k3.mpr z))]
  by_cases c4 : m1.1 137 8 = 4
  · rw [if_pos c4, if_pos (k4.mp c4)]
    exact it_close (it_law hv (adv_of 4 (by omega) c4))
  rw [if_neg c4, if_neg (fun z => c4 (k4.mpr z))]
  by_cases c10 : m1.1 137 8 = 10
  · rw [if_pos c10, if_pos (k10.mp c10)]
    exact it_close (it_act hv (adv_of 10 (by omega) c10))
  rw [if_neg c10, if_neg (fun z => c10 (k10.mpr z))]
  by_cases c13 : m1.1 137 8 = 13
  · rw [if_pos c13, if_pos (k13.mp c13)]
    exact it_close (it_letter hv (adv_of 13 (by omega) c13))
  rw [if_neg c13, if_neg (fun z => c13 (k13.mpr z))]
  by_cases c14 : m1.1 137 8 = 14
  · rw [if_pos c14, if_pos (k14.mp c14)]
    have := it_close (it_odds hv (adv_of 14 (by omega) c14))
    by_cases h0 : m2.1 0 20 = 0
    · rw [if_pos h0] at this ⊢
      rw [p_seq] at this ⊢
      have e : ∀ (A : Option (Unit × o_Mem)) (F : o_Mem → Option (Int32 × o_Mem)) (G : Int32 → o_Mem → Option (Int32 × o_Mem)), (o_bd (o_bd A fun _ μ9 => o_bd (F μ9) fun r μ => some (r, μ)) fun r μ => G r μ) = (o_bd A fun _ μ9 => o_bd (F μ9) fun r μ => G r μ) := fun A F G => by
        cases A with
        | none => rfl
        | some x =>
          rw [p_bd, p_bd]
          cases F x.2 <;> rfl
      rw [e] at this
      exact this
    · rw [if_neg h0] at this ⊢
      obtain ⟨r, l1, l2, q1, q2, hh⟩ := this
      obtain ⟨f1, f2, fq1, fq2, -⟩ := w_fail hst (x := 5) (by omega) (by omega)
      have fq2' : fX12_fails rfM 0 5 m2 = some (0, f2) := fq2
      rw [fq2'] at q2 ⊢
      exact ⟨r, l1, l2, q1, q2, hh⟩
  rw [if_neg c14, if_neg (fun z => c14 (k14.mpr z))]
  obtain ⟨f1, f2, fq1, fq2, hF, hf⟩ := w_fail hst (x := 2) (by omega) (by omega)
  have fq1' : fX4_fail rfC 137 2 m1 = some (0, f1) := fq1
  have fq2' : fX12_fails rfM 0 2 m2 = some (0, f2) := fq2
  rw [fq1', fq2']
  exact ⟨0, f1, f2, rfl, rfl, pV_w hv.2.2 hF, Or.inr ⟨rfl, hf⟩⟩
theorem pV_re (x : Int32) (a : pV μC μM m1 m2) (hx : x.toInt ≤ (m1.1 137 6).toInt) : pV (o_wI μC 137 6 x) μM m1 m2 := ⟨⟨fun i h1 h2 h3 => by rw [p_wI_o h2]; exact a.1.1 i h1 h2 h3, fun k hk => by rw [p_wI1, if_neg (by omega)]; exact a.1.2.1 k hk, a.1.2.2⟩, a.2.1, a.2.2.1, by rw [p_wI1, if_pos ⟨rfl, rfl⟩]; exact hx⟩
theorem pV_un {x : Int32} (a : pV (o_wI μC 137 6 x) μM m1 m2) (hx : (μC.1 137 6).toInt ≤ x.toInt) : pV μC μM m1 m2 := ⟨⟨fun i h1 h2 h3 => by have := a.1.1 i h1 h2 h3; rw [p_wI_o h2] at this; exact this, fun k hk => by have := a.1.2.1 k hk; rw [p_wI1, if_neg (by omega)] at this; exact this, a.1.2.2⟩, a.2.1, a.2.2.1, by have := a.2.2.2; rw [p_wI1, if_pos ⟨rfl, rfl⟩] at this; omega⟩
/-- the parts, one after the other -/
theorem vy_loop (hv : vSt T n μC μM s h p l w m1 m2) (h0 : (μC.1 137 6).toInt ≤ 0) : ∃ r l1 l2, o_lp 24 (fX9_accept_s24 rfC 139) o_fuel (1, 0) m1 = some ((199, (r, 0)), l1) ∧ o_lp 31 (fX12_valley_s31 rfM 0) o_fuel 1 m2 = some ((50, 0), l2) ∧ pV μC μM l1 l2 ∧ ((r = 1 ∧ ∃ s h p l w, vSt T n μC μM s h p l w l1 l2) ∨ (r = 0 ∧ fl l1 l2)) := by
  have h9 := hv.1.1.1
  obtain ⟨e1, l1, e2, l2, q1, q2, r, rfl, rfl, hp, hr⟩ := lp_rel (h1 := 24) (h2 := 31) (s1 := fX9_accept_s24 rfC 139) (s2 := fX12_valley_s31 rfM 0)
    (fun i τ1 k1 τ2 k2 => (∃ c s h p l w, c + i = 902 ∧ c ≤ 901 ∧ τ1 = (1, nI c) ∧ τ2 = 1 ∧ vSt T n μC μM s h p l w k1 k2 ∧ (c : Int) ≤ (k1.1 137 6).toInt) ∨ (τ1.1 = 0 ∧ τ2 = 0 ∧ pV μC μM k1 k2 ∧ fl k1 k2))
    (fun e1 k1 e2 k2 => ∃ r, e1 = (199, (r, 0)) ∧ e2 = (50, 0) ∧ pV μC μM k1 k2 ∧ ((r = 1 ∧ ∃ s h p l w, vSt T n μC μM s h p l w k1 k2) ∨ (r = 0 ∧ fl k1 k2)))
    (fun i τ1 k1 τ2 k2 hR => by
      rcases hR with ⟨c, s, h, p, l, w, hi, hc, rfl, rfl, hv, hst⟩ | ⟨ht1, rfl, hp, hf⟩
      · obtain ⟨a, q, haq, hqn, h6, h13, hk⟩ := hv.1.2.1
        have hca : c ≤ a := by rw [h6, nI_toInt (by omega)] at hst; omega
        have hpart := vy_part (μC := o_wI μC 137 6 (nI a)) ⟨hv.1, hv.2.1, pV_re (nI a) hv.2.2 (by rw [h6]; exact Int.le_refl _)⟩
        rw [show (o_wI μC 137 6 (nI a)).1 137 6 = nI a by rw [p_wI1, if_pos ⟨rfl, rfl⟩], nI_toInt (by omega)] at hpart
        unfold fX9_accept_s24 fX12_valley_s31
        rw [rc139_0, if_neg (show ¬ 900 < nI c from fun z => by have := (n_lt (a := 900) (b := c) (by omega) (by omega)).mp z; omega), if_neg (show ¬ (1 : Int32) = 0 by decide), if_neg (show ¬ (1 : Int32) = 0 by decide)]
        by_cases hk0 : k1.1 137 7 = 0
        · have hk0' : k2.1 0 12 = 0 := by
            rcases hk with ⟨-, z, -⟩ | ⟨z, -⟩ | ⟨z, -⟩ | ⟨z, -⟩ | ⟨z, -⟩
            · exact z
            all_goals (rw [hk0] at z; exact absurd z (by decide))
          rw [if_pos hk0, if_pos hk0']
          exact ⟨_, _, _, _, rfl, rfl, Or.inr ⟨show ¬ 199 = 24 by decide, show ¬ 50 = 31 by decide, 1, rfl, rfl, hv.2.2, Or.inl ⟨rfl, s, h, p, l, w, hv⟩⟩⟩
        · have hk0' : ¬ k2.1 0 12 = 0 := by
            rcases hk with ⟨z, -⟩ | ⟨-, z, -⟩ | ⟨-, z, -⟩ | ⟨-, z, -⟩ | ⟨-, z, -⟩
            · exact absurd z hk0
            all_goals (rw [z]; decide)
          rw [if_neg hk0, if_neg hk0', aR_1]
          obtain ⟨r, l1, l2, x1, x2, hp, hr⟩ := hpart
          have xs : (if k1.1 137 8 = 0 then o_bd (fX9_takeStrike rfC 139 k1) fun r1 μ1 => some ((24, (r1, nI (c + 1))), μ1) else if k1.1 137 8 = 2 then o_bd (fX9_takeHand rfC 139 k1) fun r1 μ1 => some ((24, (r1, nI (c + 1))), μ1) else if k1.1 137 8 = 3 then o_bd (fX9_takePerson rfC 139 k1) fun r1 μ1 => some ((24, (r1, nI (c + 1))), μ1) else if k1.1 137 8 = 4 then o_bd (fX9_takeLaw rfC 139 k1) fun r1 μ1 => some ((24, (r1, nI (c + 1))), μ1) else if k1.1 137 8 = 10 then o_bd (fX9_takeActs rfC 139 k1) fun r1 μ1 => some ((24, (r1, nI (c + 1))), μ1) else if k1.1 137 8 = 13 then o_bd (fX9_takeLetter rfC 139 k1) fun r1 μ1 => some ((24, (r1, nI (c + 1))), μ1) else if k1.1 137 8 = 14 then o_bd (fX9_takeOdds rfC 139 k1) fun r1 μ1 => some ((24, (r1, nI (c + 1))), μ1) else o_bd (fX4_fail rfC 137 2 k1) fun r1 μ1 => some ((24, (r1, nI (c + 1))), μ1)) = some ((24, (r, nI (c + 1))), l1) := by
            by_cases c0 : k1.1 137 8 = 0
            · rw [if_pos c0] at x1 ⊢; rw [x1, p_bd]
            rw [if_neg c0] at x1 ⊢
            by_cases c2 : k1.1 137 8 = 2
            · rw [if_pos c2] at x1 ⊢; rw [x1, p_bd]
            rw [if_neg c2] at x1 ⊢
            by_cases c3 : k1.1 137 8 = 3
            · rw [if_pos c3] at x1 ⊢; rw [x1, p_bd]
            rw [if_neg c3] at x1 ⊢
            by_cases c4 : k1.1 137 8 = 4
            · rw [if_pos c4] at x1 ⊢; rw [x1, p_bd]
            rw [if_neg c4] at x1 ⊢
            by_cases c10 : k1.1 137 8 = 10
            · rw [if_pos c10] at x1 ⊢; rw [x1, p_bd]
            rw [if_neg c10] at x1 ⊢
            by_cases c13 : k1.1 137 8 = 13
            · rw [if_pos c13] at x1 ⊢; rw [x1, p_bd]
            rw [if_neg c13] at x1 ⊢
            by_cases c14 : k1.1 137 8 = 14
            · rw [if_pos c14] at x1 ⊢; rw [x1, p_bd]
            rw [if_neg c14] at x1 ⊢
            rw [x1, p_bd]
          have hbase : (μC.1 137 6).toInt ≤ (nI a).toInt := by rw [nI_toInt (by omega)]; omega
          have hpu := pV_un hp hbase
          refine ⟨_, _, _, _, xs, by rw [x2]; rfl, Or.inl ⟨rfl, rfl, ?_⟩⟩
          rcases hr with ⟨rfl, hlt, s, h, p, l, w, hv'⟩ | ⟨rfl, hf⟩
          · exact ⟨i - 1, by omega, Or.inl ⟨c + 1, s, h, p, l, w, by omega, by omega, rfl, rfl, ⟨hv'.1, hv'.2.1, hpu⟩, by omega⟩⟩
          · exact ⟨0, by omega, Or.inr ⟨rfl, rfl, hpu, hf⟩⟩
      · refine ⟨(199, (0, 0)), k1, (50, 0), k2, ?_, ?_, Or.inr ⟨show ¬ 199 = 24 by decide, show ¬ 50 = 31 by decide, 0, rfl, rfl, hp, Or.inr ⟨rfl, hf⟩⟩⟩
        · unfold fX9_accept_s24
          rw [if_pos ht1, ht1]
          split <;> rfl
        · unfold fX12_valley_s31
          rw [if_pos rfl])
    o_fuel 902 (1, 0) m1 1 m2 (fu (by omega)) (Or.inl ⟨0, s, h, p, l, w, by omega, by omega, rfl, rfl, hv, by
      obtain ⟨a, q, haq, hqn, h6, -⟩ := hv.1.2.1
      rw [h6, nI_toInt (by omega)]
      omega⟩)
  exact ⟨r, l1, l2, q1, q2, hp, hr⟩
end va
