/-! ===== a STEP of WEEKS as it is read ===== -/
def pX (μC μM m1 m2 : o_Mem) : Prop := ((∀ i, i < 55 ∨ 60 ≤ i → i ≠ 137 → i ≠ 140 → i ≠ 141 → m1.1 i = μC.1 i) ∧ (∀ k, k = 0 ∨ k = 1 ∨ k = 4 → m1.1 137 k = μC.1 137 k) ∧ (μC.1 137 6).toInt ≤ (m1.1 137 6).toInt ∧ ∀ i, i ≠ 137 → m1.2 i = μC.2 i) ∧ (∀ i, i ≠ 0 → i ≠ 1 → i ≠ 8 → m2.1 i = μM.1 i) ∧ (∀ k, k ≤ 11 ∨ k = 16 ∨ (19 ≤ k ∧ k ≠ 22 ∧ k ≠ 23) → m2.1 0 k = μM.1 0 k) ∧ (∀ k, k < 2504 ∨ 3130 ≤ k → m2.1 1 k = μM.1 1 k) ∧ m2.2 = μM.2
def wkS (T : Nat → Int32) (n : Nat) (μC μM : o_Mem) (s h p k d c : Nat) (σ : Nat → Nat) (m1 m2 : o_Mem) : Prop := stT T n m1 m2 ∧ wkX s p k d c σ (bV m1 55) (mS m2 2504) ∧ (m1.1 140 4 = nI d ∧ m2.1 0 22 = nI d ∧ m2.1 0 23 = nI c ∧ ∀ i, i < d → m1.1 141 i = nI (σ i) ∧ m2.1 8 i = nI (σ i)) ∧ nmE 10 0 0 s h p m1 m2 ∧ pX μC μM m1 m2
section sp
variable {T : Nat → Int32} {n s h p k d c : Nat} {σ : Nat → Nat} {μC μM m1 m2 l1 l2 : o_Mem}
theorem pX_w (a : pX μC μM m1 m2) (b : wF m1 m2 l1 l2) : pX μC μM l1 l2 := ⟨⟨fun i h1 h2 h3 h4 => (b.1 i h2).trans (a.1.1 i h1 h2 h3 h4), fun k hk => (b.2.1.1 k hk).trans (a.1.2.1 k hk), Int.le_trans a.1.2.2.1 b.2.1.2, fun i hi => (b.2.2.1 i hi).trans (a.1.2.2.2 i hi)⟩, fun i h1 h2 h3 => (b.2.2.2.1 i h1).trans (a.2.1 i h1 h2 h3), fun k hk => (b.2.2.2.2.1 k (by omega) (by omega) (by omega) (by omega) (by omega) (by omega)).trans (a.2.2.1 k hk), fun k hk => by rw [b.2.2.2.1 1 (by omega)]; exact a.2.2.2.1 k hk, b.2.2.2.2.2.trans a.2.2.2.2⟩
theorem pX_d {X : Nat} (hX : 2504 ≤ X ∧ X + 6 ≤ 3130) (a : pX μC μM m1 m2) (b : dW k X m1 m2 l1 l2) : pX μC μM l1 l2 := ⟨⟨fun i h1 h2 h3 h4 => (b.1.1 i h2 h1).trans (a.1.1 i h1 h2 h3 h4), fun k hk => (b.1.2.2.2.1 k hk).trans (a.1.2.1 k hk), Int.le_trans a.1.2.2.1 b.1.2.2.2.2.1, fun i hi => (b.1.2.2.2.2.2 i hi).trans (a.1.2.2.2 i hi)⟩, fun i h1 h2 h3 => (b.2.1 i h1 h2).trans (a.2.1 i h1 h2 h3), fun k hk => (b.2.2.2.1 k (by omega) (by omega) (by omega) (by omega) (by omega) (by omega)).trans (a.2.2.1 k hk), fun k hk => by rw [b.2.2.1 k (by omega)]; exact a.2.2.2.1 k hk, b.2.2.2.2.trans a.2.2.2.2⟩
theorem st_g {M1 M2 : o_Mem} (hs : stT T n m1 m2) (e1 : M1.1 137 = m1.1 137) (e2 : M1.1 138 = m1.1 138) (e3 : M1.2 137 = m1.2 137) (e4 : ∀ k, k = 11 ∨ k = 12 ∨ k = 13 ∨ k = 14 ∨ k = 15 ∨ k = 17 ∨ k = 18 → M2.1 0 k = m2.1 0 k) (e5 : M2.1 7 = m2.1 7) : stT T n M1 M2 := by
  unfold stT txR tok ns at hs ⊢
  rw [e1, e2, e3, e5, e4 11 (by omega), e4 12 (by omega), e4 13 (by omega), e4 14 (by omega), e4 15 (by omega), e4 17 (by omega), e4 18 (by omega)]
  exact hs
theorem adv_k (hs : stT T n m1 m2) {q : Nat} (hq : q < 27) (he : m1.1 137 8 = nI q) : adv n m1 m2 := by
  have h9 := hs.1.1
  obtain ⟨a, q, hpq, hqn, h6, h13, hk⟩ := hs.2.1
  rcases hk with ⟨-, -, k3⟩ | ⟨-, -, -, k4, k5, -⟩ | ⟨-, -, k3, -⟩ | ⟨-, -, k3, -⟩ | ⟨-, -, k3⟩
  · rw [k3] at he; exact absurd he.symm (nI_nm1 (by omega))
  · exact ⟨q, hqn, k4, k5, le6 h6 hpq (by omega)⟩
  · rw [k3] at he; exact absurd he.symm (nI_nm1 (by omega))
  · rw [k3] at he; exact absurd he.symm (nI_nm1 (by omega))
  · rw [k3] at he; exact absurd he.symm (nI_nm1 (by omega))
theorem wk_zero {X : Nat} (hX : X + 6 ≤ 3756) (x1 x2 x4 : Int32) (m : o_Mem) : ∃ m', o_lp 147 (fX12_weekStep_s147 rfM 0 x1 x2 (nI X) x4) o_fuel 1 m = some ((170, 0), m') ∧ (∀ i, i ≠ 1 → m'.1 i = m.1 i) ∧ m'.2 = m.2 ∧ ∀ q, m'.1 1 q = if X + 1 ≤ q ∧ q < X + 6 then 0 else m.1 1 q := by
  obtain ⟨e1, m', q1, rfl, a1, a2, a3⟩ := lp_one (h := 147) (s := fX12_weekStep_s147 rfM 0 x1 x2 (nI X) x4)
    (fun i τ μ => ∃ j, j + i = 6 ∧ 1 ≤ j ∧ τ = nI j ∧ (∀ i, i ≠ 1 → μ.1 i = m.1 i) ∧ μ.2 = m.2 ∧ ∀ q, μ.1 1 q = if X + 1 ≤ q ∧ q < X + j then 0 else m.1 1 q)
    (fun e μ => e = (170, 0) ∧ (∀ i, i ≠ 1 → μ.1 i = m.1 i) ∧ μ.2 = m.2 ∧ ∀ q, μ.1 1 q = if X + 1 ≤ q ∧ q < X + 6 then 0 else m.1 1 q)
    (fun i τ μ hR => by
      obtain ⟨j, hj, h1j, rfl, h1, h2, h3⟩ := hR
      unfold fX12_weekStep_s147
      rw [qm_0, show (6 : Int32) = nI 6 from rfl]
      by_cases hi : i = 0
      · rw [if_pos ((n_le (by omega) (by omega)).mpr (by omega))]
        exact ⟨_, _, rfl, Or.inr ⟨show ¬ 170 = 147 by decide, rfl, h1, h2, fun q => by rw [h3 q, show j = 6 by omega]⟩⟩
      · rw [if_neg (fun z => by rw [n_le (by omega) (by omega)] at z; omega)]
        simp (disch := omega) only [nI_add', nI_toInt, nI_clamp, p_ck, p_seq, aR_1]
        refine ⟨_, _, rfl, Or.inl ⟨rfl, i - 1, by omega, j + 1, by omega, by omega, rfl, fun i hi => by rw [p_wI_o hi]; exact h1 i hi, h2, fun q => ?_⟩⟩
        rw [p_wI1]
        by_cases e : q = X + j
        · rw [if_pos ⟨rfl, e⟩, if_pos (by omega)]
        · rw [if_neg (fun z => e z.2), h3 q]
          by_cases e2 : X + 1 ≤ q ∧ q < X + j
          · rw [if_pos e2, if_pos (by omega)]
          · rw [if_neg e2, if_neg (by omega)])
    o_fuel 5 1 m (fu (by omega)) ⟨1, by omega, by omega, rfl, fun i _ => rfl, rfl, fun q => by rw [if_neg (by omega)]⟩
  exact ⟨m', q1, a1, a2, a3⟩
abbrev wPair (W W' : Int32) : Prop := (W = 15 ∧ W' = 15) ∨ (W = 16 ∧ W' = 16) ∨ (W = 17 ∧ W' = 17) ∨ (W = 18 ∧ W' = 18) ∨ (W = 19 ∧ W' = 19) ∨ (W = 20 ∧ W' = 20) ∨ (W = 24 ∧ W' = 21) ∨ (W = 26 ∧ W' = 23)
theorem wk_rest {X : Nat} {W W' : Int32} (hW : wPair W W') (hs : stT T n m1 m2) (hE : nmE 10 0 0 s h p m1 m2) (hk : k < 60) (h2 : m1.1 55 2 = nI k) (hX : X < 3700) (hX0 : 3 ≤ X) (hr : m2.1 1 X = W') : reO T n s p k X W m1 m2 (fX10_takeRest rfC 140 W m1) (fX12_weekOrder rfM 0 W' (nI X) m2) := by
  unfold fX10_takeRest fX12_weekOrder
  rw [aR_1, qm_0, rc140_2]
  rcases hW with ⟨rfl, rfl⟩ | ⟨rfl, rfl⟩ | ⟨rfl, rfl⟩ | ⟨rfl, rfl⟩ | ⟨rfl, rfl⟩ | ⟨rfl, rfl⟩ | ⟨rfl, rfl⟩ | ⟨rfl, rfl⟩
  · rw [if_pos rfl, if_pos rfl, to_old (A := fX10_takeNumber rfC 140 15 20 m1)]
    exact re_num hs hk h2 hX (hi := 20) (Or.inl ⟨rfl, rfl, rfl⟩) hr
  · rw [if_neg (by decide), if_pos rfl, if_neg (by decide), if_pos rfl, to_old (A := fX10_takePost rfC 140 m1)]
    exact re_post hs hE hk h2 hX hX0 hr
  · rw [if_neg (by decide), if_neg (by decide), if_neg (by decide), if_neg (by decide), if_neg (by decide), if_neg (by decide), if_neg (by decide), if_neg (by decide)]
    exact re_0 hs hk h2 (Or.inl ⟨rfl, rfl⟩) hr
  · rw [if_neg (by decide), if_neg (by decide), if_neg (by decide), if_neg (by decide), if_neg (by decide), if_neg (by decide), if_neg (by decide), if_neg (by decide)]
    exact re_0 hs hk h2 (Or.inr (Or.inl ⟨rfl, rfl⟩)) hr
  · rw [if_neg (by decide), if_neg (by decide), if_neg (by decide), if_neg (by decide), if_neg (by decide), if_neg (by decide), if_neg (by decide), if_neg (by decide)]
    exact re_0 hs hk h2 (Or.inr (Or.inr (Or.inl ⟨rfl, rfl⟩))) hr
  · rw [if_neg (by decide), if_neg (by decide), if_pos rfl, if_neg (by decide), if_neg (by decide), if_pos rfl, to_old (A := fX10_takeTest rfC 140 m1)]
    exact re_test hs hE hk h2 hX hX0
  · rw [if_neg (by decide), if_neg (by decide), if_neg (by decide), if_pos rfl, if_neg (by decide), if_neg (by decide), if_neg (by decide), if_pos rfl, to_old (A := fX10_takeNumber rfC 140 24 99 m1)]
    exact re_num hs hk h2 hX (hi := 99) (Or.inr ⟨rfl, rfl, rfl⟩) hr
  · rw [if_neg (by decide), if_neg (by decide), if_neg (by decide), if_neg (by decide), if_neg (by decide), if_neg (by decide), if_neg (by decide), if_neg (by decide)]
    exact re_0 hs hk h2 (Or.inr (Or.inr (Or.inr ⟨rfl, rfl⟩))) hr
/-- what comes of a STEP -/
def stO (T : Nat → Int32) (n : Nat) (μC μM : o_Mem) (s h p : Nat) (b : Int) (A B : Option (Int32 × o_Mem)) : Prop := ∃ r l1 l2, A = some (r, l1) ∧ B = some (r, l2) ∧ pX μC μM l1 l2 ∧ ((r = 1 ∧ b < (l1.1 137 6).toInt ∧ ∃ k d c σ, wkS T n μC μM s h p k d c σ l1 l2) ∨ (r = 0 ∧ fl l1 l2))
theorem st_bad (hv : wkS T n μC μM s h p k d c σ m1 m2) {x : Nat} (h1 : 1 ≤ x) (h7 : x ≤ 7) (b : Int) : stO T n μC μM s h p b (o_bd (fX4_fail rfC 137 (nI x) m1) fun r μ => some (r, μ)) (o_bd (fX12_fails rfM 0 (nI x) m2) fun r μ => some (r, μ)) := by
  obtain ⟨f1, f2, q1, q2, hF, hf⟩ := w_fail hv.1 h1 h7
  rw [q1, q2]
  exact ⟨0, f1, f2, rfl, rfl, pX_w hv.2.2.2.2 hF, Or.inr ⟨rfl, hf⟩⟩
/-- the head of a row is written, and the rest is read -/
theorem wk_row {W W' : Int32} (hW : wPair W W') (hop : Bool) (hopW : (hop = true ↔ opn W)) (hv : wkS T n μC μM s h p k d c σ m1 m2) (hc : c < 30) (hd : hop = true → d < 3) (ha : adv n m1 m2) : stO T n μC μM s h p (m1.1 137 6).toInt
    (gX10_takeStep_j116 rfC 140 W (if hop = true then o_wI (o_wI m1 141 d (nI k)) 140 4 (nI (d + 1)) else m1))
    (fX12_weekStep_j133 rfM 0 W' (nI k) (nI (2763 + 6 * k)) (if hop = true then 1 else 0) 0 (m2.1 0 23) 1 m2) := by
  obtain ⟨hst, hx, ⟨e4, e22, e23, eσ⟩, hE, hpw⟩ := hv
  have hx0 := hx
  obtain ⟨⟨b1, b2, b3⟩, ⟨p00, p01, p02, a12⟩, -⟩ := hx0
  have hk60 : k < 60 := by omega
  have w22 : ¬ W' = 22 := by rcases hW with ⟨-, rfl⟩ | ⟨-, rfl⟩ | ⟨-, rfl⟩ | ⟨-, rfl⟩ | ⟨-, rfl⟩ | ⟨-, rfl⟩ | ⟨-, rfl⟩ | ⟨-, rfl⟩ <;> decide
  have w25 : ¬ W = 25 := by rcases hW with ⟨rfl, -⟩ | ⟨rfl, -⟩ | ⟨rfl, -⟩ | ⟨rfl, -⟩ | ⟨rfl, -⟩ | ⟨rfl, -⟩ | ⟨rfl, -⟩ | ⟨rfl, -⟩ <;> decide
  obtain ⟨X, hX⟩ : ∃ X, X = 2763 + 6 * k := ⟨_, rfl⟩
  unfold gX10_takeStep_j116 fX12_weekStep_j133
  rw [rc140_0, rc140_2, qm_0, e23, ← hX]
  generalize hN1 : (if hop = true then o_wI (o_wI m1 141 d (nI k)) 140 4 (nI (d + 1)) else m1) = N1
  have N1o : ∀ i, i ≠ 140 → i ≠ 141 → N1.1 i = m1.1 i := fun i h1 h2 => by
    rw [← hN1]
    split
    · rw [p_wI_o h1, p_wI_o h2]
    · rfl
  have N12 : N1.2 = m1.2 := by rw [← hN1]; split <;> rfl
  have N1141 : ∀ i, i < d → N1.1 141 i = nI (σ i) := fun i hi => by
    rw [← hN1]
    split
    · rw [p_wI_o (by omega), p_wI1, if_neg (by omega)]; exact (eσ i hi).1
    · exact (eσ i hi).1
  have N55 : N1.1 55 1 = nI c := by rw [N1o 55 (by omega) (by omega)]; exact p01
  rw [N55, aR_1, p_seq, p_seq]
  simp (disch := omega) only [nI_toInt, nI_clamp, p_ck, p_seq]
  obtain ⟨Z, z1, Z1, Z2, Z3⟩ := wk_zero (X := X) (by omega) W' (nI k) (if hop = true then 1 else 0) (o_wI (o_wI m2 0 23 (nI (c + 1))) 1 X W')
  rw [z1, p_bd, if_pos rfl]
  have Z2516 : Z.1 1 2516 = nI k := by rw [Z3, if_neg (by omega), p_wI1, if_neg (by omega), p_wI_o (by omega)]; exact a12
  rw [Z2516, aR_1]
  generalize hM1 : o_wI N1 55 1 (nI (c + 1)) = M1
  generalize hM2 : o_wI Z 1 2516 (nI (k + 1)) = M2
  have M1o : ∀ i, i ≠ 55 → i ≠ 140 → i ≠ 141 → M1.1 i = m1.1 i := fun i h1 h2 h3 => by rw [← hM1, p_wI_o h1, N1o i h2 h3]
  have M1s : ∀ i, i ≠ 55 → M1.1 i = N1.1 i := fun i h1 => by rw [← hM1, p_wI_o h1]
  have M155 : ∀ q, q ≠ 1 → M1.1 55 q = m1.1 55 q := fun q hq => by rw [← hM1, p_wI1, if_neg (fun z => hq z.2), N1o 55 (by omega) (by omega)]
  have M1551 : M1.1 55 1 = nI (c + 1) := by rw [← hM1, p_wI1, if_pos ⟨rfl, rfl⟩]
  have M12 : M1.2 = m1.2 := by rw [← hM1]; exact N12
  have M2o : ∀ i, i ≠ 0 → i ≠ 1 → M2.1 i = m2.1 i := fun i h1 h2 => by rw [← hM2, p_wI_o h2, Z1 i h2, p_wI_o h2, p_wI_o h1]
  have M20 : ∀ q, q ≠ 23 → M2.1 0 q = m2.1 0 q := fun q hq => by rw [← hM2, p_wI_o (by omega), Z1 0 (by omega), p_wI_o (by omega), p_wI1, if_neg (fun z => hq z.2)]
  have M2023 : M2.1 0 23 = nI (c + 1) := by rw [← hM2, p_wI_o (by omega), Z1 0 (by omega), p_wI_o (by omega), p_wI1, if_pos ⟨rfl, rfl⟩]
  have M21 : ∀ q, q ≠ 2516 → q < X ∨ X + 6 ≤ q → M2.1 1 q = m2.1 1 q := fun q h1 h2 => by rw [← hM2, p_wI1, if_neg (fun z => h1 z.2), Z3, if_neg (by omega), p_wI1, if_neg (by omega), p_wI_o (by omega)]
  have M2X : M2.1 1 X = W' := by rw [← hM2, p_wI1, if_neg (by omega), Z3, if_neg (by omega), p_wI1, if_pos ⟨rfl, rfl⟩]
  have M2516 : M2.1 1 2516 = nI (k + 1) := by rw [← hM2, p_wI1, if_pos ⟨rfl, rfl⟩]
  have M22 : M2.2 = m2.2 := by rw [← hM2]; exact Z2
  have hst0 : stT T n M1 M2 := st_g hst (M1o 137 (by omega) (by omega) (by omega)) (M1o 138 (by omega) (by omega) (by omega)) (by rw [M12]) (fun q hq => M20 q (by omega)) (M2o 7 (by omega) (by omega))
  have hpw0 : pX μC μM M1 M2 := ⟨⟨fun i h1 h2 h3 h4 => by rw [M1o i (by omega) h3 h4]; exact hpw.1.1 i h1 h2 h3 h4, fun q hq => by rw [M1o 137 (by omega) (by omega) (by omega)]; exact hpw.1.2.1 q hq, by rw [M1o 137 (by omega) (by omega) (by omega)]; exact hpw.1.2.2.1, fun i hi => by rw [M12]; exact hpw.1.2.2.2 i hi⟩, fun i h1 h2 h3 => by rw [M2o i h1 h2]; exact hpw.2.1 i h1 h2 h3, fun q hq => by rw [M20 q (by omega)]; exact hpw.2.2.1 q hq, fun q hq => by rw [M21 q (by omega) (by omega)]; exact hpw.2.2.2.1 q hq, M22.trans hpw.2.2.2.2⟩
  have hE0 : nmE 10 0 0 s h p M1 M2 := by
    unfold nmE at hE ⊢
    rw [M1o 10 (by omega) (by omega) (by omega), M12, M22, M21 0 (by omega) (by omega), M21 (0 + 1) (by omega) (by omega), M21 (0 + 2) (by omega) (by omega)]
    exact hE
  obtain ⟨k1, k2, y1, y2, V0, hs0⟩ := w_next hst0 (by
    obtain ⟨q, a1, a2, a3, a4⟩ := ha
    exact ⟨q, a1, by rw [M1o 137 (by omega) (by omega) (by omega)]; exact a2, by rw [M20 14 (by omega)]; exact a3, by rw [M1o 137 (by omega) (by omega) (by omega)]; exact a4⟩)
  rw [y1, y2, p_bd, p_bd]
  have hstart : (m1.1 137 6).toInt ≤ (k1.1 137 6).toInt := by
    have := V0.2.1.2
    rw [M1o 137 (by omega) (by omega) (by omega)] at this
    exact this
  have hpw1 := pX_w hpw0 V0
  have hE1 := nmE_w (by omega) hE0 V0
  have k552 : k1.1 55 2 = nI k := by rw [V0.1 55 (by omega), M155 2 (by omega)]; exact p02
  have k2X : k2.1 1 X = W' := by rw [V0.2.2.2.1 1 (by omega)]; exact M2X
  obtain ⟨r, l1, l2, x1, x2, D, hr⟩ := wk_rest hW hs0 hE1 hk60 k552 (X := X) (by omega) (by omega) k2X
  rw [x1, x2, p_bd, p_bd]
  have hpw2 := pX_d (by omega) hpw1 D
  rcases hr with ⟨rfl, hf⟩ | ⟨rfl, hs2, l552, l56, hrow, h16⟩
  · rw [if_pos rfl, if_pos rfl]
    exact ⟨0, l1, l2, rfl, rfl, hpw2, Or.inr ⟨rfl, hf⟩⟩
  rw [if_neg (show ¬ (1 : Int32) = 0 by decide), if_neg (show ¬ (1 : Int32) = 0 by decide)]
  have l22 : l2.1 0 22 = nI d := by rw [D.2.2.2.1 22 (by omega) (by omega) (by omega) (by omega) (by omega) (by omega), V0.2.2.2.2.1 22 (by omega) (by omega) (by omega) (by omega) (by omega) (by omega), M20 22 (by omega)]; exact e22
  have l23 : l2.1 0 23 = nI (c + 1) := by rw [D.2.2.2.1 23 (by omega) (by omega) (by omega) (by omega) (by omega) (by omega), V0.2.2.2.2.1 23 (by omega) (by omega) (by omega) (by omega) (by omega) (by omega)]; exact M2023
  have l28 : l2.1 8 = m2.1 8 := by rw [D.2.1 8 (by omega) (by omega), V0.2.2.2.1 8 (by omega), M2o 8 (by omega) (by omega)]
  have c1o : ∀ i, i ≠ 137 → i < 55 ∨ 60 ≤ i → l1.1 i = N1.1 i := fun i h1 h2 => by rw [D.1.1 i h1 h2, V0.1 i h1, M1s i (by omega)]
  have c55 : l1.1 55 0 = m1.1 55 0 ∧ l1.1 55 1 = nI (c + 1) := by
    rw [D.1.2.2.1.1, D.1.2.2.1.2, V0.1 55 (by omega)]
    exact ⟨M155 0 (by omega), M1551⟩
  have crow : ∀ j q, 1 ≤ j → j < 5 → q ≠ k → l1.1 (55 + j) q = m1.1 (55 + j) q := fun j q h1 h2 h3 => by rw [D.1.2.1 j q h1 h2 h3, V0.1 _ (by omega), M1o _ (by omega) (by omega) (by omega)]
  have m1q : ∀ q, q ≠ 2516 → q < X ∨ X + 6 ≤ q → l2.1 1 q = m2.1 1 q := fun q h1 h2 => by rw [D.2.2.1 q h2, V0.2.2.2.1 1 (by omega), M21 q h1 h2]
  have m516 : l2.1 1 2516 = nI (k + 1) := by rw [D.2.2.1 2516 (by omega), V0.2.2.2.1 1 (by omega)]; exact M2516
  -- the end of it
  have fin : ∀ (L2 : o_Mem) (d' : Nat) (σ' : Nat → Nat), stT T n l1 L2 → pX μC μM l1 L2 → L2.1 1 = l2.1 1 → L2.2 = l2.2 → L2.1 0 22 = nI d' → L2.1 0 23 = nI (c + 1) → l1.1 140 4 = nI d' → (∀ i, i < d' → l1.1 141 i = nI (σ' i) ∧ L2.1 8 i = nI (σ' i)) → wkX s p (k + 1) d' (c + 1) σ' (bV l1 55) (mS l2 2504) → stO T n μC μM s h p (m1.1 137 6).toInt (o_bd (fX4_wantClose rfC 137 l1) fun r2 μ4 => if r2 = 0 then some (0, μ4) else some (1, μ4)) (fX12_weekStep_j222 rfM 0 W' (nI k) (nI X) L2) := fun L2 d' σ' f1 f2 f3 f4 f5 f6 f7 f8 f9 => by
    unfold fX12_weekStep_j222 fX12_weekStep_j279
    rw [if_neg w22]
    obtain ⟨r, g1, g2, u1, u2, U, hu⟩ := w_close f1
    rw [u1, u2, p_bd, p_bd]
    have hpw3 := pX_w f2 U
    rcases hu with ⟨rfl, hs3, hlt⟩ | ⟨rfl, hf⟩
    · rw [if_neg (show ¬ (1 : Int32) = 0 by decide)]
      have hm := D.1.2.2.2.2.1
      refine ⟨1, g1, g2, rfl, rfl, hpw3, Or.inl ⟨rfl, by omega, k + 1, d', c + 1, σ', hs3, ?_, ⟨?_, ?_, ?_, fun i hi => ⟨?_, ?_⟩⟩, ?_, hpw3⟩⟩
      · refine wk_c f9 (fun j q hj => ?_) (fun q hq => ?_)
        · show g1.1 (55 + j) q = l1.1 (55 + j) q; rw [U.1 _ (by omega)]
        · show g2.1 1 (2504 + q) = l2.1 1 (2504 + q); rw [U.2.2.2.1 1 (by omega), f3]
      · rw [U.1 140 (by omega)]; exact f7
      · rw [U.2.2.2.2.1 22 (by omega) (by omega) (by omega) (by omega) (by omega) (by omega)]; exact f5
      · rw [U.2.2.2.2.1 23 (by omega) (by omega) (by omega) (by omega) (by omega) (by omega)]; exact f6
      · rw [U.1 141 (by omega)]; exact (f8 i hi).1
      · rw [U.2.2.2.1 8 (by omega)]; exact (f8 i hi).2
      · have hE2 : nmE 10 0 0 s h p l1 L2 := by
          unfold nmE at hE ⊢
          rw [c1o 10 (by omega) (by omega), N1o 10 (by omega) (by omega), D.1.2.2.2.2.2 (10 + 19) (by omega), V0.2.2.1 (10 + 19) (by omega), M12, f3, f4, D.2.2.2.2, V0.2.2.2.2.2, M22, m1q 0 (by omega) (by omega), m1q (0 + 1) (by omega) (by omega), m1q (0 + 2) (by omega) (by omega)]
          exact hE
        exact nmE_w (by omega) hE2 U
    · rw [if_pos rfl]
      exact ⟨0, g1, g2, rfl, rfl, hpw3, Or.inr ⟨rfl, hf⟩⟩
  have q0 : bV l1 55 0 0 = 1 ∧ bV l1 55 0 1 = nI (c + 1) ∧ bV l1 55 0 2 = nI (k + 1) := ⟨c55.1.trans p00, c55.2, l552⟩
  have q1 : bV l1 55 1 k = W ∧ bV l1 55 2 k = l1.1 57 k ∧ bV l1 55 3 k = l1.1 58 k ∧ bV l1 55 4 k = l1.1 59 k := ⟨l56, rfl, rfl, rfl⟩
  have q12 : mS l2 2504 12 = nI (k + 1) := m516
  have qrow : rowC s p W (l1.1 57 k) (l1.1 58 k) (fun j => mS l2 2504 (259 + 6 * k + j)) := rowC_c (fun j _ => by show l2.1 1 (2504 + (259 + 6 * k + j)) = l2.1 1 (X + j); rw [show 2504 + (259 + 6 * k + j) = X + j by omega]) hrow
  have qold : ∀ q, 259 ≤ q → q < 259 + 6 * k → mS l2 2504 q = mS m2 2504 q := fun q h1 h2 => m1q _ (by omega) (by omega)
  cases hh : hop with
  | true =>
    have hopn := hopW.mp hh
    have hd3 := hd hh
    rw [hh] at hN1
    rw [if_pos rfl] at hN1
    rw [if_pos rfl, if_neg (show ¬ (1 : Int32) = 0 by decide), l22, qm_21]
    simp (disch := omega) only [nI_toInt, nI_clamp, p_ck, p_seq]
    rw [show (o_wI l2 8 d (nI k)).1 0 22 = nI d by rw [p_wI_o (by omega)]; exact l22, aR_1]
    refine fin _ (d + 1) (fun i => if i = d then k else σ i) ?_ ?_ ?_ rfl ?_ ?_ ?_ (fun i hi => ⟨?_, ?_⟩) (wk_open hx hc hd3 qrow hopn q0 q1 (fun j q h1 h2 h3 => crow j q h1 h2 h3) q12 qold)
    · exact st_g hs2 rfl rfl rfl (fun q hq => by rw [p_wI1, if_neg (by omega), p_wI_o (by omega)]) (by rw [p_wI_o (by omega), p_wI_o (by omega)])
    · exact ⟨hpw2.1, fun i h1 h2 h3 => by rw [p_wI_o h1, p_wI_o h3]; exact hpw2.2.1 i h1 h2 h3, fun q hq => by rw [p_wI1, if_neg (by omega), p_wI_o (by omega)]; exact hpw2.2.2.1 q hq, fun q hq => by rw [p_wI_o (by omega), p_wI_o (by omega)]; exact hpw2.2.2.2.1 q hq, hpw2.2.2.2.2⟩
    · rw [p_wI_o (by omega), p_wI_o (by omega)]
    · rw [p_wI1, if_pos ⟨rfl, rfl⟩]
    · rw [p_wI1, if_neg (by omega), p_wI_o (by omega)]; exact l23
    · rw [c1o 140 (by omega) (by omega), ← hN1, p_wI1, if_pos ⟨rfl, rfl⟩]
    · rw [c1o 141 (by omega) (by omega)]
      show N1.1 141 i = nI (if i = d then k else σ i)
      by_cases e : i = d
      · rw [if_pos e, ← hN1, p_wI_o (by omega), p_wI1, if_pos ⟨rfl, e⟩]
      · rw [if_neg e]; exact N1141 i (by omega)
    · rw [p_wI_o (by omega)]
      show (o_wI l2 8 d (nI k)).1 8 i = nI (if i = d then k else σ i)
      rw [p_wI1]
      by_cases e : i = d
      · rw [if_pos ⟨rfl, e⟩, if_pos e]
      · rw [if_neg (fun z => e z.2), if_neg e, l28]; exact (eσ i (by omega)).2
  | false =>
    have hnop : ¬ opn W := fun z => by have := hopW.mpr z; rw [hh] at this; cases this
    rw [hh] at hN1
    rw [if_neg (by decide)] at hN1
    rw [if_neg (show ¬ false = true by decide), if_pos rfl]
    refine fin l2 d σ hs2 hpw2 rfl rfl l22 l23 ?_ (fun i hi => ⟨?_, ?_⟩) (wk_add hx hc w25 qrow (fun z => ?_) hnop q0 q1 (fun j q h1 h2 h3 => crow j q h1 h2 h3) q12 qold)
    · rw [c1o 140 (by omega) (by omega), ← hN1]; exact e4
    · rw [c1o 141 (by omega) (by omega)]; exact N1141 i hi
    · rw [l28]; exact (eσ i hi).2
    · have := h16 z
      refine ⟨?_, this.2⟩
      show l2.1 1 (2504 + (259 + 6 * k + 3)) = l1.1 59 k
      rw [show 2504 + (259 + 6 * k + 3) = X + 3 by omega]
      exact this.1
end sp
