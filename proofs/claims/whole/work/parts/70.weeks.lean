/-! ===== weeks ===== -/
section we
variable {T : Nat → Int32} {n s h p k d c : Nat} {σ : Nat → Nat} {μC μM m1 m2 l1 l2 : o_Mem}
theorem pR_cap {g g' pl pl' : Nat → Nat → Int32} {a a' : Nat → Int32} (hS : cS g' = cS g) (hP : cP g' = cP g) (e0 : ∀ k, k < 3 → pl' 0 k = pl 0 k) (er : ∀ j k, 1 ≤ j → j ≤ 4 → k < 60 → pl' j k = pl j k) (ea : ∀ k, k = 12 ∨ (259 ≤ k ∧ k < 619) → a' k = a k) (a4 : pR g pl a) : pR g' pl' a' := by
  unfold pR at a4 ⊢
  rw [e0 0 (by omega), e0 2 (by omega), ea 12 (by omega)]
  rcases a4 with a4 | ⟨q1, n, q2, q3, q4, q5, q6, q7, q8⟩
  · exact Or.inl a4
  · refine Or.inr ⟨q1, n, q2, q3, q4, fun k hk => ?_, fun k hk z => ?_, fun k hk z => ?_, fun k o hk z hko ho zo => ?_⟩
    · rw [er 1 k (by omega) (by omega) (by omega), er 2 k (by omega) (by omega) (by omega), er 3 k (by omega) (by omega) (by omega), er 4 k (by omega) (by omega) (by omega)]
      exact rowR_c hS hP (fun j hj => ea _ (by omega)) (q5 k hk)
    · rw [er 1 k (by omega) (by omega) (by omega)] at z
      obtain ⟨o, o1, o2, o3, o4⟩ := q6 k hk z
      exact ⟨o, o1, by rw [er 4 k (by omega) (by omega) (by omega)]; exact o2, by rw [er 1 o (by omega) (by omega) (by omega)]; exact o3, by rw [er 4 o (by omega) (by omega) (by omega)]; exact o4⟩
    · rw [er 1 k (by omega) (by omega) (by omega)] at z
      obtain ⟨o, o1, o2, o3, o4, o5⟩ := q7 k hk z
      exact ⟨o, o1, o2, by rw [er 4 k (by omega) (by omega) (by omega)]; exact o3, by rw [er 1 o (by omega) (by omega) (by omega)]; exact o4, by rw [er 4 o (by omega) (by omega) (by omega)]; exact o5⟩
    · rw [er 1 k (by omega) (by omega) (by omega)] at z
      rw [er 4 k (by omega) (by omega) (by omega)] at ho ⊢
      obtain ⟨e, e1, e2, e3, e4, e5⟩ := q7 k hk z
      have ho' := ho
      rw [e3, nI_clamp (by omega)] at ho'
      rw [er 1 o (by omega) (by omega) (by omega)] at zo
      rw [er 4 o (by omega) (by omega) (by omega)]
      exact q8 k o hk z hko ho zo
theorem c2763 (o : Nat) : (2763 : Int32) + nI (6 * o) = nI (2763 + 6 * o) := by
  rw [← nI_add, show nI 2763 = 2763 by decide]
/-- an END -/
theorem wk_close (hv : wkS T n μC μM s h p k d c σ m1 m2) (ha : adv n m1 m2) : stO T n μC μM s h p (m1.1 137 6).toInt (fX10_takeEnd rfC 140 m1) (fX12_weekStep_j42 rfM 0 22 (nI k) (nI (2763 + 6 * k)) 0 m2) := by
  have hv0 := hv
  obtain ⟨hst, hx, ⟨e4, e22, e23, eσ⟩, hE, hpw⟩ := hv
  have hx0 := hx
  obtain ⟨⟨b1, b2, b3⟩, ⟨p00, p01, p02, a12⟩, hσ, -⟩ := hx0
  unfold fX10_takeEnd fX12_weekStep_j42 fX12_weekStep_j75 fX12_weekStep_j97 fX12_weekStep_j117 fX12_weekStep_j69
  rw [rc140_0, rc140_2, rc140_3, rc55_6, e4, if_neg (show ¬ (22 : Int32) < 15 by decide), if_neg (show ¬ (23 : Int32) < 22 by decide), if_pos rfl, e22]
  cases d with
  | zero =>
    rw [if_neg (show ¬ 0 < nI 0 by decide), if_pos (show nI 0 = 0 from rfl)]
    exact st_bad hv0 (x := 2) (by omega) (by omega) _
  | succ d =>
    rw [if_pos (show 0 < nI (d + 1) by rw [show (0 : Int32) = nI 0 from rfl, n_lt (by omega) (by omega)]; omega), if_neg (show ¬ nI (d + 1) = 0 by rw [show (0 : Int32) = nI 0 from rfl, nI_inj (by omega) (by omega)]; omega), if_pos rfl, if_pos rfl, if_pos rfl, nI_s1, p_seq]
    obtain ⟨o, ho⟩ : ∃ o, σ d = o := ⟨_, rfl⟩
    have ho1 := (hσ d (by omega)).1
    rw [ho] at ho1
    obtain ⟨s1, s2⟩ := eσ d (by omega)
    rw [ho] at s1 s2
    obtain ⟨X, hX⟩ : ∃ X, X = 2763 + 6 * k := ⟨_, rfl⟩
    have g4 : (o_wI m1 140 4 (nI d)).1 140 4 = nI d := by rw [p_wI1, if_pos ⟨rfl, rfl⟩]
    have g141 : (o_wI m1 140 4 (nI d)).1 141 d = nI o := by rw [p_wI_o (by omega)]; exact s1
    have g552 : (o_wI m1 140 4 (nI d)).1 55 2 = nI k := by rw [p_wI_o (by omega)]; exact p02
    have h4 : (o_wI (o_wI m1 140 4 (nI d)) 59 o (nI k)).1 140 4 = nI d := by rw [p_wI_o (by omega)]; exact g4
    have h141 : (o_wI (o_wI m1 140 4 (nI d)) 59 o (nI k)).1 141 d = nI o := by rw [p_wI_o (by omega)]; exact g141
    have h552 : (o_wI (o_wI m1 140 4 (nI d)) 59 o (nI k)).1 55 2 = nI k := by rw [p_wI_o (by omega)]; exact g552
    simp (disch := omega) only [g4, g141, g552, nI_toInt, nI_clamp, p_ck, p_seq, h4, h141]
    rw [e3_add h552 (by omega), p_bd]
    unfold fX12_weekStep_j133
    rw [qm_0, e23, ← hX]
    have hX6 : X + 6 ≤ 3756 := by omega
    rw [p_seq, nI_toInt (by omega), nI_clamp (by omega), p_ck _ (by omega), p_seq]
    obtain ⟨Z, z1, Z1, Z2, Z3⟩ := wk_zero (X := X) (by omega) 22 (nI k) 0 (o_wI (o_wI m2 0 23 (nI c + 0)) 1 X 22)
    rw [z1, p_bd, if_pos rfl]
    have Z2516 : Z.1 1 2516 = nI k := by rw [Z3, if_neg (by omega), p_wI1, if_neg (by omega), p_wI_o (by omega)]; exact a12
    rw [Z2516, aR_1]
    generalize hM1 : addP (o_wI (o_wI m1 140 4 (nI d)) 59 o (nI k)) k 25 0 0 (nI o) = M1
    generalize hM2 : o_wI Z 1 2516 (nI (k + 1)) = M2
    have M1o : ∀ i, i < 55 ∨ 60 ≤ i → i ≠ 140 → M1.1 i = m1.1 i := fun i h1 h2 => by rw [← hM1, addP_o h1, p_wI_o (by omega), p_wI_o h2]
    have M1140 : M1.1 140 4 = nI d := by rw [← hM1, addP_o (by omega)]; exact h4
    have M12 : M1.2 = m1.2 := by rw [← hM1]; rfl
    obtain ⟨r1, r2, r3, r4, r5⟩ := addP_r (o_wI (o_wI m1 140 4 (nI d)) 59 o (nI k)) k 25 0 0 (nI o)
    rw [hM1] at r1 r2 r3 r4 r5
    have M155 : M1.1 55 0 = m1.1 55 0 ∧ M1.1 55 1 = m1.1 55 1 := by
      rw [← hM1]
      unfold addP
      constructor
      · rw [p_wI1, if_neg (by omega), p_wI_o (by omega), p_wI_o (by omega), p_wI_o (by omega), p_wI_o (by omega), p_wI_o (by omega), p_wI_o (by omega)]
      · rw [p_wI1, if_neg (by omega), p_wI_o (by omega), p_wI_o (by omega), p_wI_o (by omega), p_wI_o (by omega), p_wI_o (by omega), p_wI_o (by omega)]
    have M1r : ∀ j q, 1 ≤ j → j < 5 → q ≠ k → M1.1 (55 + j) q = if j = 4 ∧ q = o then nI k else m1.1 (55 + j) q := fun j q h1 h2 h3 => by
      rw [← hM1]
      unfold addP
      rw [p_wI1, if_neg (by omega), p_wI1, if_neg (by omega), p_wI1, if_neg (by omega), p_wI1, if_neg (by omega), p_wI1, if_neg (by omega), p_wI1]
      by_cases e : j = 4 ∧ q = o
      · rw [if_pos (by omega), if_pos e]
      · rw [if_neg (by omega), if_neg e, p_wI_o (by omega)]
    have M2o : ∀ i, i ≠ 0 → i ≠ 1 → M2.1 i = m2.1 i := fun i h1 h2 => by rw [← hM2, p_wI_o h2, Z1 i h2, p_wI_o h2, p_wI_o h1]
    have M20 : ∀ q, M2.1 0 q = m2.1 0 q := fun q => by
      rw [← hM2, p_wI_o (by omega), Z1 0 (by omega), p_wI_o (by omega), p_wI1]
      by_cases e : q = 23
      · rw [if_pos ⟨rfl, e⟩, e, e23, Int32.add_zero]
      · rw [if_neg (fun z => e z.2)]
    have M21 : ∀ q, q ≠ 2516 → q < X ∨ X + 6 ≤ q → M2.1 1 q = m2.1 1 q := fun q h1 h2 => by rw [← hM2, p_wI1, if_neg (fun z => h1 z.2), Z3, if_neg (by omega), p_wI1, if_neg (by omega), p_wI_o (by omega)]
    have M2X : M2.1 1 X = 22 := by rw [← hM2, p_wI1, if_neg (by omega), Z3, if_neg (by omega), p_wI1, if_pos ⟨rfl, rfl⟩]
    have M2516 : M2.1 1 2516 = nI (k + 1) := by rw [← hM2, p_wI1, if_pos ⟨rfl, rfl⟩]
    have M22 : M2.2 = m2.2 := by rw [← hM2]; exact Z2
    have hst0 : stT T n M1 M2 := st_g hst (M1o 137 (by omega) (by omega)) (M1o 138 (by omega) (by omega)) (by rw [M12]) (fun q _ => M20 q) (M2o 7 (by omega) (by omega))
    have hpw0 : pX μC μM M1 M2 := ⟨⟨fun i h1 h2 h3 h4 => by rw [M1o i (by omega) h3]; exact hpw.1.1 i h1 h2 h3 h4, fun q hq => by rw [M1o 137 (by omega) (by omega)]; exact hpw.1.2.1 q hq, by rw [M1o 137 (by omega) (by omega)]; exact hpw.1.2.2.1, fun i hi => by rw [M12]; exact hpw.1.2.2.2 i hi⟩, fun i h1 h2 h3 => by rw [M2o i h1 h2]; exact hpw.2.1 i h1 h2 h3, fun q hq => by rw [M20 q]; exact hpw.2.2.1 q hq, fun q hq => by rw [M21 q (by omega) (by omega)]; exact hpw.2.2.2.1 q hq, M22.trans hpw.2.2.2.2⟩
    obtain ⟨k1, k2, y1, y2, V0, hs0⟩ := w_next hst0 (by
      obtain ⟨q, a1, a2, a3, a4⟩ := ha
      exact ⟨q, a1, by rw [M1o 137 (by omega) (by omega)]; exact a2, by rw [M20 14]; exact a3, by rw [M1o 137 (by omega) (by omega)]; exact a4⟩)
    rw [y1, p_seq, y2, p_bd, p_bd]
    have hstart : (m1.1 137 6).toInt ≤ (k1.1 137 6).toInt := by
      have := V0.2.1.2
      rw [M1o 137 (by omega) (by omega)] at this
      exact this
    have hpw1 := pX_w hpw0 V0
    have hwo : fX12_weekOrder rfM 0 22 (nI X) k2 = some (1, k2) := by
      unfold fX12_weekOrder
      rw [if_neg (show ¬ (22 : Int32) = 15 by decide), if_neg (show ¬ (22 : Int32) = 16 by decide), if_neg (show ¬ (22 : Int32) = 20 by decide), if_neg (show ¬ (22 : Int32) = 21 by decide)]
    have k22 : k2.1 0 22 = nI (d + 1) := by rw [V0.2.2.2.2.1 22 (by omega) (by omega) (by omega) (by omega) (by omega) (by omega), M20]; exact e22
    have k28 : k2.1 8 d = nI o := by rw [V0.2.2.2.1 8 (by omega), M2o 8 (by omega) (by omega)]; exact s2
    unfold fX12_weekStep_j222 fX12_weekStep_j279
    rw [hwo, p_bd, if_neg (show ¬ (1 : Int32) = 0 by decide), if_pos rfl, if_pos rfl, k22, nI_s1, p_seq, qm_0, qm_21]
    have j22 : (o_wI k2 0 22 (nI d)).1 0 22 = nI d := by rw [p_wI1, if_pos ⟨rfl, rfl⟩]
    have j8 : (o_wI k2 0 22 (nI d)).1 8 d = nI o := by rw [p_wI_o (by omega)]; exact k28
    have i22 : (o_wI (o_wI k2 0 22 (nI d)) 1 (X + 4) (nI o)).1 0 22 = nI d := by rw [p_wI_o (by omega)]; exact j22
    have i8 : (o_wI (o_wI k2 0 22 (nI d)) 1 (X + 4) (nI o)).1 8 d = nI o := by rw [p_wI_o (by omega)]; exact j8
    have e2763 : (2763 : Int32) + 6 * nI o + 4 = nI (2763 + 6 * o + 4) := by rw [mL_6, c2763 o, aR_4]
    simp (disch := omega) only [j22, j8, aR_4, nI_toInt, nI_clamp, p_ck, p_seq, i22, i8, e2763]
    generalize hL2 : o_wI (o_wI (o_wI k2 0 22 (nI d)) 1 (X + 4) (nI o)) 1 (2763 + 6 * o + 4) (nI k) = L2
    have L2o : ∀ i, i ≠ 0 → i ≠ 1 → L2.1 i = k2.1 i := fun i h1 h2 => by rw [← hL2, p_wI_o h2, p_wI_o h2, p_wI_o h1]
    have L20 : ∀ q, q ≠ 22 → L2.1 0 q = k2.1 0 q := fun q hq => by rw [← hL2, p_wI_o (by omega), p_wI_o (by omega), p_wI1, if_neg (fun z => hq z.2)]
    have L2022 : L2.1 0 22 = nI d := by rw [← hL2, p_wI_o (by omega)]; exact i22
    have L21 : ∀ q, L2.1 1 q = if q = 2763 + 6 * o + 4 then nI k else if q = X + 4 then nI o else k2.1 1 q := fun q => by
      rw [← hL2, p_wI1, p_wI1, p_wI_o (show 1 ≠ 0 by omega)]
      by_cases e1 : q = 2763 + 6 * o + 4
      · rw [if_pos ⟨rfl, e1⟩, if_pos e1]
      · rw [if_neg (fun z => e1 z.2), if_neg e1]
        by_cases e2 : q = X + 4
        · rw [if_pos ⟨rfl, e2⟩, if_pos e2]
        · rw [if_neg (fun z => e2 z.2), if_neg e2]
    have L22 : L2.2 = k2.2 := by rw [← hL2]; rfl
    have hst1 : stT T n k1 L2 := st_g hs0 rfl rfl rfl (fun q hq => L20 q (by omega)) (L2o 7 (by omega) (by omega))
    have hpw2 : pX μC μM k1 L2 := ⟨hpw1.1, fun i h1 h2 h3 => by rw [L2o i h1 h2]; exact hpw1.2.1 i h1 h2 h3, fun q hq => by rw [L20 q (by omega)]; exact hpw1.2.2.1 q hq, fun q hq => by rw [L21, if_neg (by omega), if_neg (by omega)]; exact hpw1.2.2.2.1 q hq, L22.trans hpw1.2.2.2.2⟩
    obtain ⟨r, g1, g2, u1, u2, U, hu⟩ := w_close hst1
    rw [u1, u2, p_bd, p_bd]
    have hpw3 := pX_w hpw2 U
    rcases hu with ⟨rfl, hs3, hlt⟩ | ⟨rfl, hf⟩
    · have kq : ∀ q, q ≠ 2516 → q < X ∨ X + 6 ≤ q → k2.1 1 q = m2.1 1 q := fun q h1 h2 => by rw [V0.2.2.2.1 1 (by omega), M21 q h1 h2]
      refine ⟨1, g1, g2, rfl, rfl, hpw3, Or.inl ⟨rfl, by omega, k + 1, d, c, σ, hs3, ?_, ⟨?_, ?_, ?_, fun i hi => ⟨?_, ?_⟩⟩, ?_, hpw3⟩⟩
      · refine wk_c (pl := bV k1 55) (a := mS L2 2504) (wk_end hx ho ⟨?_, ?_, ?_⟩ ⟨?_, ?_, ?_⟩ (fun j q h1 h2 h3 h4 => ?_) ?_ ⟨?_, ?_, ?_⟩ (fun q h1 h2 h3 => ?_)) (fun j q hj => ?_) (fun q hq => ?_)
        · show k1.1 55 0 = 1; rw [V0.1 55 (by omega), M155.1]; exact p00
        · show k1.1 55 1 = nI c; rw [V0.1 55 (by omega), M155.2]; exact p01
        · show k1.1 55 2 = nI (k + 1); rw [V0.1 55 (by omega)]; exact r1
        · show k1.1 56 k = 25; rw [V0.1 56 (by omega)]; exact r2
        · show k1.1 59 k = nI o; rw [V0.1 59 (by omega)]; exact r5
        · show k1.1 59 o = nI k
          rw [V0.1 59 (by omega), show (59 : Nat) = 55 + 4 from rfl, M1r 4 o (by omega) (by omega) (by omega), if_pos ⟨rfl, rfl⟩]
        · show k1.1 (55 + j) q = m1.1 (55 + j) q
          rw [V0.1 _ (by omega), M1r j q h1 h2 h3, if_neg h4]
        · show L2.1 1 (2504 + 12) = nI (k + 1)
          rw [L21, if_neg (by omega), if_neg (by omega), V0.2.2.2.1 1 (by omega)]; exact M2516
        · show L2.1 1 (2504 + (259 + 6 * k)) = 22
          rw [L21, if_neg (by omega), if_neg (by omega), V0.2.2.2.1 1 (by omega), show 2504 + (259 + 6 * k) = X by omega]; exact M2X
        · show L2.1 1 (2504 + (259 + 6 * k + 4)) = nI o
          rw [L21, if_neg (by omega), if_pos (by omega)]
        · show L2.1 1 (2504 + (259 + 6 * o + 4)) = nI k
          rw [L21, if_pos (by omega)]
        · show L2.1 1 (2504 + q) = m2.1 1 (2504 + q)
          rw [L21, if_neg (by omega), if_neg (by omega), kq _ (by omega) (by omega)]
        · show g1.1 (55 + j) q = k1.1 (55 + j) q; rw [U.1 _ (by omega)]
        · show g2.1 1 (2504 + q) = L2.1 1 (2504 + q); rw [U.2.2.2.1 1 (by omega)]
      · rw [U.1 140 (by omega), V0.1 140 (by omega)]; exact M1140
      · rw [U.2.2.2.2.1 22 (by omega) (by omega) (by omega) (by omega) (by omega) (by omega)]; exact L2022
      · rw [U.2.2.2.2.1 23 (by omega) (by omega) (by omega) (by omega) (by omega) (by omega), L20 23 (by omega), V0.2.2.2.2.1 23 (by omega) (by omega) (by omega) (by omega) (by omega) (by omega), M20]; exact e23
      · rw [U.1 141 (by omega), V0.1 141 (by omega), M1o 141 (by omega) (by omega)]; exact (eσ i (by omega)).1
      · rw [U.2.2.2.1 8 (by omega), L2o 8 (by omega) (by omega), V0.2.2.2.1 8 (by omega), M2o 8 (by omega) (by omega)]; exact (eσ i (by omega)).2
      · have hE2 : nmE 10 0 0 s h p k1 L2 := by
          unfold nmE at hE ⊢
          rw [V0.1 10 (by omega), M1o 10 (by omega) (by omega), V0.2.2.1 (10 + 19) (by omega), M12, L22, V0.2.2.2.2.2, M22, L21 0, if_neg (by omega), if_neg (by omega), L21 (0 + 1), if_neg (by omega), if_neg (by omega), L21 (0 + 2), if_neg (by omega), if_neg (by omega), kq 0 (by omega) (by omega), kq (0 + 1) (by omega) (by omega), kq (0 + 2) (by omega) (by omega)]
          exact hE
        exact nmE_w (by omega) hE2 U
    · exact ⟨0, g1, g2, rfl, rfl, hpw3, Or.inr ⟨rfl, hf⟩⟩
theorem pm_tab : ∀ q, q < 27 → q ≠ 25 → (pmL.getD q 0 < 15 ∨ 23 < pmL.getD q 0) ∨ (q = 15 ∨ q = 16 ∨ q = 17 ∨ q = 18 ∨ q = 19 ∨ q = 20 ∨ q = 24 ∨ q = 26) := by decide +kernel
/-- one STEP or END -/
theorem wk_one (hv : wkS T n μC μM s h p k d c σ m1 m2) : stO T n μC μM s h p (m1.1 137 6).toInt (if m1.1 137 8 = 25 then fX10_takeEnd rfC 140 m1 else gX10_takeStep rfC 140 m1) (fX12_weekStep rfM 0 m2) := by
  obtain ⟨y, hy, hkr⟩ := iw_tok hv.1.1 hv.1.2.1
  have hv0 := hv
  obtain ⟨hst, hx, ⟨e4, e22, e23, eσ⟩, hE, hpw⟩ := hv0
  obtain ⟨⟨b1, b2, b3⟩, ⟨p00, p01, p02, a12⟩, -⟩ := hx
  have p01' : m1.1 55 1 = nI c := p01
  have p02' : m1.1 55 2 = nI k := p02
  have a12' : m2.1 1 2516 = nI k := a12
  have eX : (2763 : Int32) + 6 * nI k = nI (2763 + 6 * k) := by rw [mL_6, c2763 k]
  unfold fX12_weekStep fX12_weekStep_j37
  rw [hy, p_bd, qm_0, a12', eX]
  -- steps
  have good : ∀ (W W' : Int32) (hop : Bool) (q : Nat), wPair W W' → (hop = true ↔ opn W) → q < 27 → W = nI q → m1.1 137 8 = W → stO T n μC μM s h p (m1.1 137 6).toInt (gX10_takeStep_j25 rfC 140 W (if hop = true then 1 else 0) m1) (fX12_weekStep_j42 rfM 0 W' (nI k) (nI (2763 + 6 * k)) (if hop = true then 1 else 0) m2) := fun W W' hop q hW hopW hq hWq hw => by
    have ha := adv_k hst hq (hw.trans hWq)
    have w22 : ¬ W' = 22 := by rcases hW with ⟨-, rfl⟩ | ⟨-, rfl⟩ | ⟨-, rfl⟩ | ⟨-, rfl⟩ | ⟨-, rfl⟩ | ⟨-, rfl⟩ | ⟨-, rfl⟩ | ⟨-, rfl⟩ <;> decide
    have w15 : ¬ W' < 15 ∧ ¬ 23 < W' := by rcases hW with ⟨-, rfl⟩ | ⟨-, rfl⟩ | ⟨-, rfl⟩ | ⟨-, rfl⟩ | ⟨-, rfl⟩ | ⟨-, rfl⟩ | ⟨-, rfl⟩ | ⟨-, rfl⟩ <;> decide
    have hbg : fX10_begins rfC W m1 = some (1, m1) := by
      unfold fX10_begins
      rcases hW with ⟨rfl, -⟩ | ⟨rfl, -⟩ | ⟨rfl, -⟩ | ⟨rfl, -⟩ | ⟨rfl, -⟩ | ⟨rfl, -⟩ | ⟨rfl, -⟩ | ⟨rfl, -⟩ <;> rfl
    unfold gX10_takeStep_j25 fX12_weekStep_j42 fX12_weekStep_j75 fX12_weekStep_j97 fX12_weekStep_j117 gX10_takeStep_j86
    rw [hbg, p_bd, if_neg (show ¬ (1 : Int32) = 0 by decide), rc140_0, rc140_2, rc140_3, p01', e4, e22, e23, if_neg w15.1, if_neg w15.2, if_neg w22, if_neg w22, if_neg w22]
    by_cases hc : c = 30
    · rw [if_neg (show ¬ nI c < 30 by rw [hc]; decide), if_pos (show nI c = 30 by rw [hc]; rfl)]
      exact st_bad hv (x := 6) (by omega) (by omega) _
    rw [if_pos (show nI c < 30 from (n_lt (a := c) (b := 30) (by omega) (by omega)).mpr (by omega)), if_neg (show ¬ nI c = 30 by rw [show (30 : Int32) = nI 30 from rfl, nI_inj (by omega) (by omega)]; exact hc)]
    cases hh : hop with
    | true =>
      rw [if_pos rfl, if_neg (show ¬ (1 : Int32) = 0 by decide)]
      by_cases hd : d = 3
      · rw [if_neg (show ¬ nI d < 3 by rw [hd]; decide), if_neg (show ¬ (1 : Int32) = 0 by decide), if_pos (show nI d = 3 by rw [hd]; rfl)]
        exact st_bad hv (x := 7) (by omega) (by omega) _
      · rw [if_pos (show nI d < 3 from (n_lt (a := d) (b := 3) (by omega) (by omega)).mpr (by omega)), if_neg (show ¬ (1 : Int32) = 0 by decide), if_neg (show ¬ (1 : Int32) = 0 by decide), if_neg (show ¬ nI d = 3 by rw [show (3 : Int32) = nI 3 from rfl, nI_inj (by omega) (by omega)]; exact hd)]
        simp (disch := omega) only [nI_toInt, nI_clamp, p_ck, p_seq, p02']
        rw [show (o_wI m1 141 d (nI k)).1 140 4 = nI d by rw [p_wI_o (by omega)]; exact e4, aR_1]
        have := wk_row hW true (by rw [hh] at hopW; exact hopW) hv (by omega) (fun _ => by omega) ha
        rw [if_pos rfl, if_pos rfl, e23] at this
        exact this
    | false =>
      rw [if_neg (show ¬ false = true by decide), if_pos rfl, if_pos rfl, if_pos rfl]
      have := wk_row hW false (by rw [hh] at hopW; exact hopW) hv (by omega) (fun z => by cases z) ha
      rw [if_neg (show ¬ false = true by decide), if_neg (show ¬ false = true by decide), e23] at this
      exact this
  -- which word
  have bad : ¬ m1.1 137 8 = 25 → ¬ m1.1 137 8 = 20 → ¬ m1.1 137 8 = 24 → (∀ q, q < 27 → m1.1 137 8 = nI q → ¬ (q = 15 ∨ q = 16 ∨ q = 17 ∨ q = 18 ∨ q = 19 ∨ q = 20 ∨ q = 24 ∨ q = 26)) → (y < 15 ∨ 23 < y) → stO T n μC μM s h p (m1.1 137 6).toInt (if m1.1 137 8 = 25 then fX10_takeEnd rfC 140 m1 else gX10_takeStep rfC 140 m1) (if y = 20 then fX12_weekStep_j42 rfM 0 y (nI k) (nI (2763 + 6 * k)) 1 m2 else if y = 21 then fX12_weekStep_j42 rfM 0 y (nI k) (nI (2763 + 6 * k)) 1 m2 else fX12_weekStep_j42 rfM 0 y (nI k) (nI (2763 + 6 * k)) 0 m2) := fun h25 h20 h24 hn hy' => by
    have hbg : fX10_begins rfC (m1.1 137 8) m1 = some (0, m1) := by
      unfold fX10_begins
      rw [if_neg (show ¬ m1.1 137 8 = 15 from fun z => hn 15 (by omega) z (by omega)), if_neg (show ¬ m1.1 137 8 = 16 from fun z => hn 16 (by omega) z (by omega)), if_neg (show ¬ m1.1 137 8 = 17 from fun z => hn 17 (by omega) z (by omega)), if_neg (show ¬ m1.1 137 8 = 18 from fun z => hn 18 (by omega) z (by omega)), if_neg (show ¬ m1.1 137 8 = 19 from fun z => hn 19 (by omega) z (by omega)), if_neg (show ¬ m1.1 137 8 = 20 from fun z => hn 20 (by omega) z (by omega)), if_neg (show ¬ m1.1 137 8 = 24 from fun z => hn 24 (by omega) z (by omega)), if_neg (show ¬ m1.1 137 8 = 26 from fun z => hn 26 (by omega) z (by omega))]
    have y20 : ¬ y = 20 := fun z => by rw [z] at hy'; exact absurd hy' (by decide)
    have y21 : ¬ y = 21 := fun z => by rw [z] at hy'; exact absurd hy' (by decide)
    unfold gX10_takeStep gX10_takeStep_j25 fX12_weekStep_j42 fX12_weekStep_j69
    rw [rc140_0, if_neg h25, if_neg h20, if_neg h24, hbg, p_bd, if_pos rfl, if_neg y20, if_neg y21]
    rcases hy' with z | z
    · rw [if_pos z]
      exact st_bad hv (x := 2) (by omega) (by omega) _
    · by_cases z15 : y < 15
      · rw [if_pos z15]
        exact st_bad hv (x := 2) (by omega) (by omega) _
      · rw [if_neg z15, if_pos z]
        exact st_bad hv (x := 2) (by omega) (by omega) _
  rcases hkr with ⟨q, hq, hw, rfl⟩ | ⟨hw, rfl⟩
  · by_cases h25 : q = 25
    · have hw25 : m1.1 137 8 = 25 := by rw [hw, h25]; rfl
      rw [if_pos hw25, h25]
      exact wk_close hv (adv_k hst hq hw)
    · have hpl := pm_lt q hq
      rcases pm_tab q hq h25 with hy' | hq'
      · refine bad (fun z => ?_) (fun z => ?_) (fun z => ?_) (fun q' hq1 hq2 hq3 => ?_) ?_
        · rw [hw] at z; exact h25 ((nI_inj (a := q) (b := 25) (by omega) (by omega)).mp z)
        · rw [hw] at z
          have := (nI_inj (a := q) (b := 20) (by omega) (by omega)).mp z
          rw [this] at hy'; exact absurd hy' (by decide)
        · rw [hw] at z
          have := (nI_inj (a := q) (b := 24) (by omega) (by omega)).mp z
          rw [this] at hy'; exact absurd hy' (by decide)
        · rw [hw, nI_inj (by omega) (by omega)] at hq2
          rw [← hq2] at hq3
          rcases hq3 with rfl | rfl | rfl | rfl | rfl | rfl | rfl | rfl <;> exact absurd hy' (by decide)
        · rcases hy' with z | z
          · exact Or.inl ((n_lt (a := pmL.getD q 0) (b := 15) (by omega) (by omega)).mpr z)
          · exact Or.inr ((n_lt (a := 23) (b := pmL.getD q 0) (by omega) (by omega)).mpr z)
      · unfold gX10_takeStep gX10_takeStep_j20
        rw [rc140_0]
        rcases hq' with rfl | rfl | rfl | rfl | rfl | rfl | rfl | rfl
        · have hw' : m1.1 137 8 = 15 := hw
          rw [hw', if_neg (by decide), if_neg (by decide), if_neg (by decide)]
          exact good 15 15 false 15 (Or.inl ⟨rfl, rfl⟩) (by decide) (by omega) rfl hw'
        · have hw' : m1.1 137 8 = 16 := hw
          rw [hw', if_neg (by decide), if_neg (by decide), if_neg (by decide)]
          exact good 16 16 false 16 (Or.inr (Or.inl ⟨rfl, rfl⟩)) (by decide) (by omega) rfl hw'
        · have hw' : m1.1 137 8 = 17 := hw
          rw [hw', if_neg (by decide), if_neg (by decide), if_neg (by decide)]
          exact good 17 17 false 17 (Or.inr (Or.inr (Or.inl ⟨rfl, rfl⟩))) (by decide) (by omega) rfl hw'
        · have hw' : m1.1 137 8 = 18 := hw
          rw [hw', if_neg (by decide), if_neg (by decide), if_neg (by decide)]
          exact good 18 18 false 18 (Or.inr (Or.inr (Or.inr (Or.inl ⟨rfl, rfl⟩)))) (by decide) (by omega) rfl hw'
        · have hw' : m1.1 137 8 = 19 := hw
          rw [hw', if_neg (by decide), if_neg (by decide), if_neg (by decide)]
          exact good 19 19 false 19 (Or.inr (Or.inr (Or.inr (Or.inr (Or.inl ⟨rfl, rfl⟩))))) (by decide) (by omega) rfl hw'
        · have hw' : m1.1 137 8 = 20 := hw
          rw [hw', if_neg (by decide), if_pos rfl]
          exact good 20 20 true 20 (Or.inr (Or.inr (Or.inr (Or.inr (Or.inr (Or.inl ⟨rfl, rfl⟩)))))) (by decide) (by omega) rfl hw'
        · have hw' : m1.1 137 8 = 24 := hw
          rw [hw', if_neg (by decide), if_neg (by decide), if_pos rfl]
          exact good 24 21 true 24 (Or.inr (Or.inr (Or.inr (Or.inr (Or.inr (Or.inr (Or.inl ⟨rfl, rfl⟩))))))) (by decide) (by omega) rfl hw'
        · have hw' : m1.1 137 8 = 26 := hw
          rw [hw', if_neg (by decide), if_neg (by decide), if_neg (by decide)]
          exact good 26 23 false 26 (Or.inr (Or.inr (Or.inr (Or.inr (Or.inr (Or.inr (Or.inr ⟨rfl, rfl⟩))))))) (by decide) (by omega) rfl hw'
  · refine bad (by rw [hw]; decide) (by rw [hw]; decide) (by rw [hw]; decide) (fun q hq1 hq2 _ => ?_) (Or.inl (by decide))
    rw [hw] at hq2
    exact absurd hq2.symm (nI_nm1 (by omega))
end we
