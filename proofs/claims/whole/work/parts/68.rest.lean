/-! ===== what follows the word of a STEP ===== -/
def addP (m : o_Mem) (k : Nat) (w x y z : Int32) : o_Mem := o_wI (o_wI (o_wI (o_wI (o_wI m 56 k w) 57 k x) 58 k y) 59 k z) 55 2 (nI (k + 1))
theorem addP_o {m : o_Mem} {k : Nat} {w x y z : Int32} {i : Nat} (hi : i < 55 ∨ 60 ≤ i) : (addP m k w x y z).1 i = m.1 i := by
  unfold addP
  rw [p_wI_o (by omega), p_wI_o (by omega), p_wI_o (by omega), p_wI_o (by omega), p_wI_o (by omega)]
theorem e3_add {m : o_Mem} {k : Nat} (h2 : m.1 55 2 = nI k) (hk : k < 60) (w x y z : Int32) : fX3_add rfC 55 w x y z m = some ((), addP m k w x y z) := by
  unfold fX3_add
  rw [rc55_3, rc55_4, rc55_5, rc55_6, h2, if_pos (show nI k < 60 from (n_lt (a := k) (b := 60) (by omega) (by omega)).mpr hk)]
  have g1 : (o_wI m 56 k w).1 55 2 = nI k := by rw [p_wI_o (by omega)]; exact h2
  have g2 : (o_wI (o_wI m 56 k w) 57 k x).1 55 2 = nI k := by rw [p_wI_o (by omega)]; exact g1
  have g3 : (o_wI (o_wI (o_wI m 56 k w) 57 k x) 58 k y).1 55 2 = nI k := by rw [p_wI_o (by omega)]; exact g2
  have g4 : (o_wI (o_wI (o_wI (o_wI m 56 k w) 57 k x) 58 k y) 59 k z).1 55 2 = nI k := by rw [p_wI_o (by omega)]; exact g3
  simp (disch := omega) only [nI_toInt, nI_clamp, p_ck, p_seq, g1, g2, g3, g4, aR_1]
  rfl
/-- what a row changes -/
def dW (k X : Nat) (k1 k2 l1 l2 : o_Mem) : Prop := ((∀ i, i ≠ 137 → i < 55 ∨ 60 ≤ i → l1.1 i = k1.1 i) ∧ (∀ j q, 1 ≤ j → j < 5 → q ≠ k → l1.1 (55 + j) q = k1.1 (55 + j) q) ∧ (l1.1 55 0 = k1.1 55 0 ∧ l1.1 55 1 = k1.1 55 1) ∧ (∀ q, q = 0 ∨ q = 1 ∨ q = 4 → l1.1 137 q = k1.1 137 q) ∧ (k1.1 137 6).toInt ≤ (l1.1 137 6).toInt ∧ ∀ i, i ≠ 137 → l1.2 i = k1.2 i) ∧ (∀ i, i ≠ 0 → i ≠ 1 → l2.1 i = k2.1 i) ∧ (∀ q, q < X ∨ X + 6 ≤ q → l2.1 1 q = k2.1 1 q) ∧ (∀ q, q ≠ 12 → q ≠ 13 → q ≠ 14 → q ≠ 15 → q ≠ 17 → q ≠ 18 → l2.1 0 q = k2.1 0 q) ∧ l2.2 = k2.2
section rs
variable {T : Nat → Int32} {n s h p : Nat} {k X : Nat} {k1 k2 l1 l2 q1 Q2 : o_Mem}
theorem dW_0 (W : wF k1 Q2 q1 l2) (hQ : ∀ i, i ≠ 1 → Q2.1 i = k2.1 i) (hQ1 : ∀ q, q < X ∨ X + 6 ≤ q → Q2.1 1 q = k2.1 1 q) (hQ2 : Q2.2 = k2.2) : dW k X k1 k2 q1 l2 :=
  ⟨⟨fun i h1 _ => W.1 i h1, fun j q h1 h2 _ => by rw [W.1 _ (by omega)], by rw [W.1 55 (by omega)]; exact ⟨rfl, rfl⟩, W.2.1.1, W.2.1.2, W.2.2.1⟩, fun i h1 h2 => (W.2.2.2.1 i h1).trans (hQ i h2), fun q hq => by rw [W.2.2.2.1 1 (by omega)]; exact hQ1 q hq, fun q a b c d e f => by rw [W.2.2.2.2.1 q a b c d e f, hQ 0 (by omega)], W.2.2.2.2.2.trans hQ2⟩
theorem dW_p (D : dW k X k1 k2 q1 l2) (w x y z : Int32) : dW k X k1 k2 (addP q1 k w x y z) l2 := by
  obtain ⟨⟨a1, a2, a3, a4, a5, a6⟩, b⟩ := D
  refine ⟨⟨fun i h1 h2 => by rw [addP_o h2]; exact a1 i h1 h2, fun j q h1 h2 h3 => ?_, ?_, fun q hq => by rw [addP_o (by omega)]; exact a4 q hq, by rw [addP_o (by omega)]; exact a5, a6⟩, b⟩
  · rw [← a2 j q h1 h2 h3]
    unfold addP
    rw [p_wI1, if_neg (by omega), p_wI1, if_neg (by omega), p_wI1, if_neg (by omega), p_wI1, if_neg (by omega), p_wI1, if_neg (by omega)]
  · rw [← a3.1, ← a3.2]
    unfold addP
    constructor
    · rw [p_wI1, if_neg (by omega), p_wI_o (by omega), p_wI_o (by omega), p_wI_o (by omega), p_wI_o (by omega)]
    · rw [p_wI1, if_neg (by omega), p_wI_o (by omega), p_wI_o (by omega), p_wI_o (by omega), p_wI_o (by omega)]
theorem st_p (hs : stT T n q1 l2) (w x y z : Int32) : stT T n (addP q1 k w x y z) l2 := by
  unfold addP
  exact st_w1 (st_w1 (st_w1 (st_w1 (st_w1 hs (by omega) _ _) (by omega) _ _) (by omega) _ _) (by omega) _ _) (by omega) _ _
theorem fl_p (hf : fl q1 l2) (w x y z : Int32) : fl (addP q1 k w x y z) l2 := by
  unfold fl at hf ⊢
  rw [addP_o (by omega)]
  exact hf
theorem addP_r (m : o_Mem) (k : Nat) (w x y z : Int32) : (addP m k w x y z).1 55 2 = nI (k + 1) ∧ (addP m k w x y z).1 56 k = w ∧ (addP m k w x y z).1 57 k = x ∧ (addP m k w x y z).1 58 k = y ∧ (addP m k w x y z).1 59 k = z := by
  unfold addP
  refine ⟨by rw [p_wI1, if_pos ⟨rfl, rfl⟩], ?_, ?_, ?_, ?_⟩
  · rw [p_wI_o (by omega), p_wI_o (by omega), p_wI_o (by omega), p_wI_o (by omega), p_wI1, if_pos ⟨rfl, rfl⟩]
  · rw [p_wI_o (by omega), p_wI_o (by omega), p_wI_o (by omega), p_wI1, if_pos ⟨rfl, rfl⟩]
  · rw [p_wI_o (by omega), p_wI_o (by omega), p_wI1, if_pos ⟨rfl, rfl⟩]
  · rw [p_wI_o (by omega), p_wI1, if_pos ⟨rfl, rfl⟩]
/-- what comes of the rest of a STEP -/
def reO (T : Nat → Int32) (n s p k X : Nat) (W : Int32) (k1 k2 : o_Mem) (A B : Option (Int32 × o_Mem)) : Prop := ∃ r l1 l2, A = some (r, l1) ∧ B = some (r, l2) ∧ dW k X k1 k2 l1 l2 ∧ ((r = 0 ∧ fl l1 l2) ∨ (r = 1 ∧ stT T n l1 l2 ∧ l1.1 55 2 = nI (k + 1) ∧ l1.1 56 k = W ∧ rowC s p W (l1.1 57 k) (l1.1 58 k) (fun j => l2.1 1 (X + j)) ∧ (W = 16 → l2.1 1 (X + 3) = l1.1 59 k ∧ wOk (l1.1 59 k))))
/-- a number follows -/
theorem re_num (hs : stT T n k1 k2) (hk : k < 60) (h2 : k1.1 55 2 = nI k) (hX : X < 3700) {W W' : Int32} {hi : Nat} (hW : (W = 15 ∧ W' = 15 ∧ hi = 20) ∨ (W = 24 ∧ W' = 21 ∧ hi = 99)) (hr : k2.1 1 X = W') : reO T n s p k X W k1 k2 (fX10_takeNumber rfC 140 W (nI hi) k1) (o_bd (fX12_number rfM 0 (nI (X + 1)) 1 (nI hi) k2) fun r μ => some (r, μ)) := by
  unfold fX10_takeNumber
  rw [rc140_0, rc140_2]
  rcases w_num hs (lo := 1) (hi := hi) (x := X + 1) (by omega) (by omega) (by omega) with ⟨v, q1, q2, v1, v2, y1, y2, V, hs1⟩ | ⟨q1, q2, y1, y2, V, hfl⟩
  · have y1' : fX4_wantNumber rfC 137 1 (nI hi) k1 = some (nI v, q1) := y1
    have y2' : fX12_number rfM 0 (nI (X + 1)) 1 (nI hi) k2 = some (1, q2) := y2
    have g2 : q1.1 55 2 = nI k := by rw [V.1 55 (by omega)]; exact h2
    rw [y1', y2', p_bd, p_bd, e3_add g2 hk, p_bd, if_neg (nI_nm1 (by omega))]
    obtain ⟨r1, r2, r3, r4, r5⟩ := addP_r q1 k W (nI v) 0 0
    refine ⟨1, _, q2, rfl, rfl, dW_p (dW_0 (X := X) (k := k) (k2 := k2) V (fun i hi => p_wI_o hi) (fun q hq => by rw [p_wI1, if_neg (by omega)]) rfl) _ _ _ _, Or.inr ⟨rfl, st_p hs1 _ _ _ _, r1, r2, ?_, ?_⟩⟩
    · have e0 : q2.1 1 (X + 0) = W' := by rw [V.2.2.2.1 1 (by omega), p_wI1, if_neg (by omega)]; exact hr
      have e1 : q2.1 1 (X + 1) = nI v := by rw [V.2.2.2.1 1 (by omega), p_wI1, if_pos ⟨rfl, rfl⟩]
      rw [r3, r4]
      rcases hW with ⟨rfl, rfl, rfl⟩ | ⟨rfl, rfl, rfl⟩
      · exact Or.inl ⟨rfl, e0, e1, by rw [nI_toInt (by omega)]; omega, by rw [nI_toInt (by omega)]; omega⟩
      · exact Or.inr (Or.inr (Or.inr (Or.inr (Or.inr (Or.inr (Or.inr (Or.inl ⟨rfl, e0, e1, by rw [nI_toInt (by omega)]; omega, by rw [nI_toInt (by omega)]; omega⟩)))))))
    · intro z
      rcases hW with ⟨rfl, -⟩ | ⟨rfl, -⟩
      · exact absurd z (by decide)
      · exact absurd z (by decide)
  · have y1' : fX4_wantNumber rfC 137 1 (nI hi) k1 = some (-1, q1) := y1
    have y2' : fX12_number rfM 0 (nI (X + 1)) 1 (nI hi) k2 = some (0, q2) := y2
    have g2 : q1.1 55 2 = nI k := by rw [V.1 55 (by omega)]; exact h2
    rw [y1', y2', p_bd, p_bd, e3_add g2 hk, p_bd, if_pos rfl]
    exact ⟨0, _, q2, rfl, rfl, dW_p (dW_0 (X := X) (k := k) (k2 := k2) V (fun _ _ => rfl) (fun _ _ => rfl) rfl) _ _ _ _, Or.inl ⟨rfl, fl_p hfl _ _ _ _⟩⟩
/-- nothing follows -/
theorem re_0 (hs : stT T n k1 k2) (hk : k < 60) (h2 : k1.1 55 2 = nI k) {W W' : Int32} (hW : (W = 17 ∧ W' = 17) ∨ (W = 18 ∧ W' = 18) ∨ (W = 19 ∧ W' = 19) ∨ (W = 26 ∧ W' = 23)) (hr : k2.1 1 X = W') : reO T n s p k X W k1 k2 (o_bd (fX3_add rfC 55 W 0 0 0 k1) fun _ μ => some (1, μ)) (some (1, k2)) := by
  rw [e3_add h2 hk, p_bd]
  obtain ⟨r1, r2, r3, r4, r5⟩ := addP_r k1 k W 0 0 0
  refine ⟨1, _, k2, rfl, rfl, dW_p (dW_0 (X := X) (k := k) (k2 := k2) wF_re (fun _ _ => rfl) (fun _ _ => rfl) rfl) _ _ _ _, Or.inr ⟨rfl, st_p hs _ _ _ _, r1, r2, ?_, ?_⟩⟩
  · have e0 : k2.1 1 (X + 0) = W' := hr
    rcases hW with ⟨rfl, rfl⟩ | ⟨rfl, rfl⟩ | ⟨rfl, rfl⟩ | ⟨rfl, rfl⟩
    · exact Or.inr (Or.inr (Or.inl ⟨rfl, e0⟩))
    · exact Or.inr (Or.inr (Or.inr (Or.inl ⟨rfl, e0⟩)))
    · exact Or.inr (Or.inr (Or.inr (Or.inr (Or.inl ⟨rfl, e0⟩))))
    · exact Or.inr (Or.inr (Or.inr (Or.inr (Or.inr (Or.inl ⟨rfl, e0⟩)))))
  · intro z
    rcases hW with ⟨rfl, -⟩ | ⟨rfl, -⟩ | ⟨rfl, -⟩ | ⟨rfl, -⟩
    all_goals exact absurd z (by decide)
theorem opt {x : Nat} {q : o_Mem} (h2 : q.1 1 2 = nI p) : fX12_oldPersonTo rfM 0 (nI x) q = fX12_oldOne rfM 0 (nI 10) (nI p) (nI x) q := by
  unfold fX12_oldPersonTo
  rw [qm_0, h2]
  exact to_old
theorem re_post (hs : stT T n k1 k2) (hE : nmE 10 0 0 s h p k1 k2) (hk : k < 60) (h2 : k1.1 55 2 = nI k) (hX : X < 3700) (hX0 : 3 ≤ X) (hr : k2.1 1 X = 16) : reO T n s p k X 16 k1 k2 (fX10_takePost rfC 140 k1) (o_bd (fX12_oldPersonTo rfM 0 (nI (X + 1)) k2) fun r2 μ2 => if r2 = 0 then some (0, μ2) else o_bd (fX12_isName rfM 0 μ2) fun r3 μ3 => if r3 = 0 then fX12_weekOrder_j116 rfM 0 (nI X) μ3 else o_bd (fX12_findHere rfM 0 10 (μ3.1 1 2) μ3) fun r4 μ4 => o_ck (0 ≤ (nI (X + 1)).toInt ∧ (nI (X + 1)).toInt < 3756) (if r4 = μ4.1 1 (nI (X + 1)).toNatClampNeg then o_bd (fX12_fails rfM 0 5 μ4) fun r5 μ5 => some (r5, μ5) else fX12_weekOrder_j116 rfM 0 (nI X) μ4)) := by
  have hp6 := hE.2.2.1
  unfold fX10_takePost
  rw [rc140_0, rc140_1, rc140_2, opt hE.2.1.2.2]
  rcases k_pers k10 (by omega) (x := X + 1) (by omega) hE hs with ⟨a, q1, q2, ak, -, x1, x2, V1, hs1⟩ | ⟨y, q1, q2, x1, x2, V1, hfl⟩
  rotate_left
  · have x2' : fX12_oldOne rfM 0 (nI 10) (nI p) (nI (X + 1)) k2 = some (0, q2) := x2
    rw [x1, x2', p_bd, p_bd, if_pos rfl, if_pos rfl]
    exact ⟨0, q1, q2, rfl, rfl, dW_0 (X := X) (k := k) (k2 := k2) V1 (fun i hi => p_wI_o hi) (fun q hq => by rw [p_wI1, if_neg (by omega)]) rfl, Or.inl ⟨rfl, hfl⟩⟩
  have x2' : fX12_oldOne rfM 0 (nI 10) (nI p) (nI (X + 1)) k2 = some (1, q2) := x2
  rw [x1, x2', p_bd, p_bd, if_neg (nI_nm1 (by omega)), if_neg (show ¬ (1 : Int32) = 0 by decide)]
  have hE1 := nmE_w (by omega) (nmE_2 hE (k := X + 1) (by omega) (nI a)) V1
  have ga : q2.1 1 (X + 1) = nI a := by rw [V1.2.2.2.1 1 (by omega), p_wI1, if_pos ⟨rfl, rfl⟩]
  have gp : q2.1 1 2 = nI p := hE1.2.1.2.2
  -- what follows a second one
  have second : ∀ (A : Option (Int32 × o_Mem)), oldP T n q1 q2 p (X + 2) (nI a) A (fX12_oldOne rfM 0 (nI 10) (nI p) (nI (X + 2)) q2) → reO T n s p k X 16 k1 k2 (o_bd A fun r2 μ2 => if r2 = -1 then some (0, μ2) else o_bd (fX4_wantNumber rfC 137 1 99 μ2) fun r3 μ3 => o_bd (fX3_add rfC 55 16 (nI a) r2 r3 μ3) fun _ μ4 => if r3 = -1 then some (0, μ4) else some (1, μ4)) (fX12_weekOrder_j116 rfM 0 (nI X) q2) := fun A hA => by
    unfold fX12_weekOrder_j116
    rw [aR_2, aR_3, opt gp]
    rcases hA with ⟨b, q3, q4, bk, -, rfl, x4, V2, hs2⟩ | ⟨y, q3, q4, rfl, x4, V2, hfl⟩
    · rw [x4, p_bd, p_bd, if_neg (nI_nm1 (by omega)), if_neg (show ¬ (1 : Int32) = 0 by decide)]
      have Z2 : wF k1 (o_wI (o_wI k2 1 (X + 1) (nI a)) 1 (X + 2) (nI b)) q3 q4 := wF_tr (wF_w2 V1 (X + 2) (nI b)) V2
      rcases w_num hs2 (lo := 1) (hi := 99) (x := X + 3) (by omega) (by omega) (by omega) with ⟨v, q5, q6, v1, v9, y1, y2, V3, hs3⟩ | ⟨q5, q6, y1, y2, V3, hfl⟩
      · have y1' : fX4_wantNumber rfC 137 1 99 q3 = some (nI v, q5) := y1
        have y2' : fX12_number rfM 0 (nI (X + 3)) 1 99 q4 = some (1, q6) := y2
        have Z3 := wF_tr (wF_w2 Z2 (X + 3) (nI v)) V3
        have g2 : q5.1 55 2 = nI k := by rw [Z3.1 55 (by omega)]; exact h2
        rw [y1', y2', p_bd, p_bd, e3_add g2 hk, p_bd, if_neg (nI_nm1 (by omega)), if_neg (show ¬ (1 : Int32) = 0 by decide)]
        obtain ⟨r1, r2, r3, r4, r5⟩ := addP_r q5 k 16 (nI a) (nI b) (nI v)
        refine ⟨1, _, q6, rfl, rfl, dW_p (dW_0 (X := X) (k := k) (k2 := k2) Z3 (fun i hi => by rw [p_wI_o hi, p_wI_o hi, p_wI_o hi]) (fun q hq => by rw [p_wI1, if_neg (by omega), p_wI1, if_neg (by omega), p_wI1, if_neg (by omega)]) rfl) _ _ _ _, Or.inr ⟨rfl, st_p hs3 _ _ _ _, r1, r2, ?_, fun _ => ⟨?_, ?_⟩⟩⟩
        · rw [r3, r4]
          refine Or.inr (Or.inl ⟨rfl, ?_, ?_, ?_, ⟨by rw [nI_toInt (by omega)]; omega, by rw [nI_toInt (by omega)]; omega⟩, ⟨by rw [nI_toInt (by omega)]; omega, by rw [nI_toInt (by omega)]; omega⟩⟩)
          · show q6.1 1 (X + 0) = 16
            rw [Z3.2.2.2.1 1 (by omega), p_wI1, if_neg (by omega), p_wI1, if_neg (by omega), p_wI1, if_neg (by omega)]; exact hr
          · show q6.1 1 (X + 1) = nI a
            rw [Z3.2.2.2.1 1 (by omega), p_wI1, if_neg (by omega), p_wI1, if_neg (by omega), p_wI1, if_pos ⟨rfl, rfl⟩]
          · show q6.1 1 (X + 2) = nI b
            rw [Z3.2.2.2.1 1 (by omega), p_wI1, if_neg (by omega), p_wI1, if_pos ⟨rfl, rfl⟩]
        · rw [r5, Z3.2.2.2.1 1 (by omega), p_wI1, if_pos ⟨rfl, rfl⟩]
        · rw [r5]; exact ⟨by rw [nI_toInt (by omega)]; omega, by rw [nI_toInt (by omega)]; omega⟩
      · have y1' : fX4_wantNumber rfC 137 1 99 q3 = some (-1, q5) := y1
        have y2' : fX12_number rfM 0 (nI (X + 3)) 1 99 q4 = some (0, q6) := y2
        have Z3 := wF_tr Z2 V3
        have g2 : q5.1 55 2 = nI k := by rw [Z3.1 55 (by omega)]; exact h2
        rw [y1', y2', p_bd, p_bd, e3_add g2 hk, p_bd, if_pos rfl, if_pos rfl]
        exact ⟨0, _, q6, rfl, rfl, dW_p (dW_0 (X := X) (k := k) (k2 := k2) Z3 (fun i hi => by rw [p_wI_o hi, p_wI_o hi]) (fun q hq => by rw [p_wI1, if_neg (by omega), p_wI1, if_neg (by omega)]) rfl) _ _ _ _, Or.inl ⟨rfl, fl_p hfl _ _ _ _⟩⟩
    · rw [x4, p_bd, p_bd, if_pos rfl, if_pos rfl]
      have Z2 : wF k1 (o_wI (o_wI k2 1 (X + 1) (nI a)) 1 (X + 2) y) q3 q4 := wF_tr (wF_w2 V1 (X + 2) y) V2
      exact ⟨0, q3, q4, rfl, rfl, dW_0 (X := X) (k := k) (k2 := k2) Z2 (fun i hi => by rw [p_wI_o hi, p_wI_o hi]) (fun q hq => by rw [p_wI1, if_neg (by omega), p_wI1, if_neg (by omega)]) rfl, Or.inl ⟨rfl, hfl⟩⟩
  rcases w_known (m1 := q1) (m2 := q2) k10 (kd := 2) (c := p) (t := 10) (x := X + 2) (by omega) hE1.1.2.2 (by omega) (by omega) (by omega) (by
      have := hE1.2.2.2.2.2
      rw [show 0 + 10 = 10 from rfl] at this
      exact this) hs1 (nI a) (Or.inr ⟨a, by omega, rfl⟩) with ⟨i1, h1⟩ | ⟨r, i1, i2, ⟨hne, hra, f1, f2, y1, y2, hF, hf⟩ | ⟨hr', h1⟩⟩
  · rw [i1, p_bd, if_pos rfl]
    exact second _ h1
  · have i2' : fX12_findHere rfM 0 10 (nI p) q2 = some (r, q2) := i2
    have y1' : fX4_wantKnown rfC 137 10 2 (nI a) q1 = some (-1, f1) := y1
    rw [i1, p_bd, if_neg (show ¬ (1 : Int32) = 0 by decide), gp, i2', p_bd, p_ck _ (by rw [nI_toInt (by omega)]; omega), nI_clamp (by omega), ga, if_pos hra, y2, p_bd, y1', p_bd, if_pos rfl]
    have Z2 : wF k1 (o_wI k2 1 (X + 1) (nI a)) f1 f2 := wF_tr V1 hF
    exact ⟨0, f1, f2, rfl, rfl, dW_0 (X := X) (k := k) (k2 := k2) Z2 (fun i hi => p_wI_o hi) (fun q hq => by rw [p_wI1, if_neg (by omega)]) rfl, Or.inl ⟨rfl, hf⟩⟩
  · have i2' : fX12_findHere rfM 0 10 (nI p) q2 = some (r, q2) := i2
    rw [i1, p_bd, if_neg (show ¬ (1 : Int32) = 0 by decide), gp, i2', p_bd, p_ck _ (by rw [nI_toInt (by omega)]; omega), nI_clamp (by omega), ga, if_neg (show ¬ r = nI a by
      rcases hr' with rfl | hr'
      · exact fun z => nI_nm1 (by omega) z.symm
      · exact hr')]
    exact second _ h1
theorem re_test (hs : stT T n k1 k2) (hE : nmE 10 0 0 s h p k1 k2) (hk : k < 60) (h2 : k1.1 55 2 = nI k) (hX : X < 3700) (hX0 : 3 ≤ X) : reO T n s p k X 20 k1 k2 (fX10_takeTest rfC 140 k1) (o_bd (fX12_test rfM 0 (nI X) k2) fun r μ => some (r, μ)) := by
  have hs6 := hE.2.2.1
  have h9 := hs.1.1
  obtain ⟨y, hy, hkr⟩ := iw_tok hs.1 hs.2.1
  have e21 : k1.1 137 8 = 21 ↔ y = 24 := kR_eq hkr (c := 21) (by omega)
  have e22 : k1.1 137 8 = 22 ↔ y = 25 := kR_eq hkr (c := 22) (by omega)
  have e23 : k1.1 137 8 = 23 ↔ y = 26 := kR_eq hkr (c := 23) (by omega)
  have adv_of : ∀ c, c < 27 → k1.1 137 8 = nI c → adv n k1 k2 := fun c hc he => by
    obtain ⟨a, q, hpq, hqn, h6, h13, hk⟩ := hs.2.1
    rcases hk with ⟨-, -, k3⟩ | ⟨-, -, -, k4, k5, -⟩ | ⟨-, -, k3, -⟩ | ⟨-, -, k3, -⟩ | ⟨-, -, k3⟩
    · rw [k3] at he; exact absurd he.symm (nI_nm1 (by omega))
    · exact ⟨q, hqn, k4, k5, le6 h6 hpq (by omega)⟩
    · rw [k3] at he; exact absurd he.symm (nI_nm1 (by omega))
    · rw [k3] at he; exact absurd he.symm (nI_nm1 (by omega))
    · rw [k3] at he; exact absurd he.symm (nI_nm1 (by omega))
  unfold fX10_takeTest fX12_test fX10_takeTest_j37 fX10_takeTest_j64 fX10_takeTest_j128 fX10_takeTest_j93
  rw [rc140_0, rc140_1, rc140_2, hy, p_bd, qm_0, to_old]
  by_cases c21 : k1.1 137 8 = 21
  · have hy24 := e21.mp c21
    rw [if_pos c21, c21, hy24, if_pos (show (24 : Int32) ≤ 24 by decide), p_ck _ (by rw [nI_toInt (by omega)]; omega), nI_clamp (by omega), p_seq, show (2000 : Int32) + 24 = 2024 from rfl]
    obtain ⟨q1, q2, x1, x2, V1, hs1⟩ := w_next (st_w2 hs X 2024) (by
      obtain ⟨q, a1, a2, a3, a4⟩ := adv_of 21 (by omega) c21
      exact ⟨q, a1, a2, by rw [p_wI_o (by omega)]; exact a3, a4⟩)
    have hE1 := nmE_w (by omega) (nmE_2 hE (k := X) (by omega) 2024) V1
    rw [x1, x2, p_bd, p_bd, if_pos (show (21 : Int32) = 21 from rfl), if_neg (show ¬ (24 : Int32) = 26 by decide), if_pos (show (24 : Int32) = 24 from rfl), aR_1, show q2.1 1 0 = nI s from hE1.2.1.1, to_old]
    rcases k_strike k10 (by omega) (x := X + 1) (by omega) hE1 hs1 with ⟨b, q3, q4, bk, -, x3, x4, V2, hs2⟩ | ⟨y', q3, q4, x3, x4, V2, hfl⟩
    · have x4' : fX12_oldOne rfM 0 0 (nI s) (nI (X + 1)) q2 = some (1, q4) := x4
      have Z2 := wF_tr (wF_w2 V1 (X + 1) (nI b)) V2
      have g2 : q3.1 55 2 = nI k := by rw [Z2.1 55 (by omega)]; exact h2
      rw [x3, x4', p_bd, if_neg (show ¬ (21 : Int32) = 22 by decide), e3_add g2 hk, p_bd, if_neg (nI_nm1 (by omega))]
      obtain ⟨r1, r2, r3, r4, r5⟩ := addP_r q3 k 20 21 (nI b) 0
      refine ⟨1, _, q4, rfl, rfl, dW_p (dW_0 (X := X) (k := k) (k2 := k2) Z2 (fun i hi => by rw [p_wI_o hi, p_wI_o hi]) (fun q hq => by rw [p_wI1, if_neg (by omega), p_wI1, if_neg (by omega)]) rfl) _ _ _ _, Or.inr ⟨rfl, st_p hs2 _ _ _ _, r1, r2, ?_, fun z => absurd z (by decide)⟩⟩
      rw [r3, r4]
      refine Or.inr (Or.inr (Or.inr (Or.inr (Or.inr (Or.inr (Or.inl ⟨rfl, Or.inl ⟨rfl, ?_, ?_, ⟨by rw [nI_toInt (by omega)]; omega, by rw [nI_toInt (by omega)]; omega⟩⟩⟩))))))
      · show q4.1 1 (X + 0) = 2024
        rw [Z2.2.2.2.1 1 (by omega), p_wI1, if_neg (by omega), p_wI1, if_pos ⟨rfl, rfl⟩]
      · show q4.1 1 (X + 1) = nI b
        rw [Z2.2.2.2.1 1 (by omega), p_wI1, if_pos ⟨rfl, rfl⟩]
    · have x4' : fX12_oldOne rfM 0 0 (nI s) (nI (X + 1)) q2 = some (0, q4) := x4
      have Z2 := wF_tr (wF_w2 V1 (X + 1) y') V2
      have g2 : q3.1 55 2 = nI k := by rw [Z2.1 55 (by omega)]; exact h2
      rw [x3, x4', p_bd, if_neg (show ¬ (21 : Int32) = 22 by decide), e3_add g2 hk, p_bd, if_pos rfl]
      exact ⟨0, _, q4, rfl, rfl, dW_p (dW_0 (X := X) (k := k) (k2 := k2) Z2 (fun i hi => by rw [p_wI_o hi, p_wI_o hi]) (fun q hq => by rw [p_wI1, if_neg (by omega), p_wI1, if_neg (by omega)]) rfl) _ _ _ _, Or.inl ⟨rfl, fl_p hfl _ _ _ _⟩⟩
  rw [if_neg c21]
  by_cases c22 : k1.1 137 8 = 22
  · have hy25 := e22.mp c22
    rw [if_pos c22, c22, hy25, if_pos (show (24 : Int32) ≤ 25 by decide), p_ck _ (by rw [nI_toInt (by omega)]; omega), nI_clamp (by omega), p_seq, show (2000 : Int32) + 25 = 2025 from rfl]
    obtain ⟨q1, q2, x1, x2, V1, hs1⟩ := w_next (st_w2 hs X 2025) (by
      obtain ⟨q, a1, a2, a3, a4⟩ := adv_of 22 (by omega) c22
      exact ⟨q, a1, a2, by rw [p_wI_o (by omega)]; exact a3, a4⟩)
    unfold fX12_isSign fX12_test_j96
    rw [x1, x2, p_bd, p_bd, if_neg (show ¬ (22 : Int32) = 21 by decide), if_pos (show (22 : Int32) = 22 from rfl), if_neg (show ¬ (25 : Int32) = 26 by decide), if_neg (show ¬ (25 : Int32) = 24 by decide), qm_0]
    have bad : ∃ r l1 l2, (o_bd (fX4_fail rfC 137 2 q1) fun r1 μ1 => some (r1, μ1)) = some (r, l1) ∧ (o_bd (fX12_fails rfM 0 2 q2) fun r5 μ7 => some (r5, μ7)) = some (r, l2) ∧ dW k X k1 k2 l1 l2 ∧ ((r = 0 ∧ fl l1 l2) ∨ (r = 1 ∧ stT T n l1 l2 ∧ l1.1 55 2 = nI (k + 1) ∧ l1.1 56 k = 20 ∧ rowC s p 20 (l1.1 57 k) (l1.1 58 k) (fun j => l2.1 1 (X + j)) ∧ ((20 : Int32) = 16 → l2.1 1 (X + 3) = l1.1 59 k ∧ wOk (l1.1 59 k)))) := by
      obtain ⟨f1, f2, fq1, fq2, hF, hf⟩ := w_fail hs1 (x := 2) (by omega) (by omega)
      rw [show (2 : Int32) = nI 2 from rfl, fq1, fq2]
      exact ⟨0, f1, f2, rfl, rfl, dW_0 (X := X) (k := k) (k2 := k2) (wF_tr V1 hF) (fun i hi => p_wI_o hi) (fun q hq => by rw [p_wI1, if_neg (by omega)]) rfl, Or.inl ⟨rfl, hf⟩⟩
    rcases w_sign hs1 with ⟨j1, j2, ⟨q, hq, a5, a14, a6⟩, j3, j4⟩ | ⟨j1, j2⟩
    · rw [if_pos j1]
      by_cases h59 : q1.1 137 11 = 59
      · rw [if_pos h59]
        simp only [if_pos j2, ← j3, h59, show ¬ (59 : Int32) = 60 by decide, show ¬ (59 : Int32) = 62 by decide, show ¬ (59 : Int32) = 61 by decide, if_false, p_bd, if_true]
        rw [to_old (A := o_bd (fX12_fails rfM 0 2 q2) fun r1 μ1 => some (r1, μ1))]
        exact bad
      · rw [if_neg h59]
        have hsg : q1.1 137 11 = 60 ∨ q1.1 137 11 = 61 ∨ q1.1 137 11 = 62 := by
          rcases j4 with z | z | z | z
          · exact absurd z h59
          · exact Or.inl z
          · exact Or.inr (Or.inr z)
          · exact Or.inr (Or.inl z)
        obtain ⟨sg, hsg1⟩ : ∃ sg, q1.1 137 11 = sg := ⟨_, rfl⟩
        have j15 : q2.1 0 15 = sg := by rw [← j3, hsg1]
        rw [hsg1] at hsg h59 ⊢
        have hmod : ∀ Y Z : Option (Int32 × o_Mem), (o_bd (if q2.1 0 12 = 4 then if q2.1 0 15 = 60 then some ((1 : Int32), q2) else some (0, q2) else some (0, q2)) fun r2 μ4 => if r2 = 0 then o_bd (if μ4.1 0 12 = 4 then if μ4.1 0 15 = 62 then some ((1 : Int32), μ4) else some (0, μ4) else some (0, μ4)) fun r3 μ5 => if r3 = 0 then o_bd (if μ5.1 0 12 = 4 then if μ5.1 0 15 = 61 then some ((1 : Int32), μ5) else some (0, μ5) else some (0, μ5)) fun r4 μ6 => if r4 = 0 then o_bd (fX12_fails rfM 0 2 μ6) fun r5 μ7 => some (r5, μ7) else o_ck (0 ≤ (nI X + 5).toInt ∧ (nI X + 5).toInt < 3756) (o_seq (o_wI μ6 1 (nI X + 5).toNatClampNeg (μ6.1 0 15)) fun μ1 => o_bd (fX12_ahead rfM 0 μ1) fun _ μ2 => o_bd (fX12_number rfM 0 (nI X + 2) 0 99 μ2) fun r1 μ3 => some (r1, μ3)) else o_ck (0 ≤ (nI X + 5).toInt ∧ (nI X + 5).toInt < 3756) (o_seq (o_wI μ5 1 (nI X + 5).toNatClampNeg (μ5.1 0 15)) fun μ1 => o_bd (fX12_ahead rfM 0 μ1) fun _ μ2 => o_bd (fX12_number rfM 0 (nI X + 2) 0 99 μ2) fun r1 μ3 => some (r1, μ3)) else o_ck (0 ≤ (nI X + 5).toInt ∧ (nI X + 5).toInt < 3756) (o_seq (o_wI μ4 1 (nI X + 5).toNatClampNeg (μ4.1 0 15)) fun μ1 => o_bd (fX12_ahead rfM 0 μ1) fun _ μ2 => o_bd (fX12_number rfM 0 (nI X + 2) 0 99 μ2) fun r1 μ3 => some (r1, μ3))) = o_ck (0 ≤ (nI X + 5).toInt ∧ (nI X + 5).toInt < 3756) (o_seq (o_wI q2 1 (nI X + 5).toNatClampNeg (q2.1 0 15)) fun μ1 => o_bd (fX12_ahead rfM 0 μ1) fun _ μ2 => o_bd (fX12_number rfM 0 (nI X + 2) 0 99 μ2) fun r1 μ3 => some (r1, μ3)) := fun _ _ => by
          rw [if_pos j2, j15]
          rcases hsg with rfl | rfl | rfl
          · rw [if_pos (show (60 : Int32) = 60 from rfl), p_bd, if_neg (show ¬ (1 : Int32) = 0 by decide), j15]
          · rw [if_neg (show ¬ (61 : Int32) = 60 by decide), p_bd, if_pos rfl, if_pos j2, j15, if_neg (show ¬ (61 : Int32) = 62 by decide), p_bd, if_pos rfl, if_pos j2, j15, if_pos (show (61 : Int32) = 61 from rfl), p_bd, if_neg (show ¬ (1 : Int32) = 0 by decide), j15]
          · rw [if_neg (show ¬ (62 : Int32) = 60 by decide), p_bd, if_pos rfl, if_pos j2, j15, if_pos (show (62 : Int32) = 62 from rfl), p_bd, if_neg (show ¬ (1 : Int32) = 0 by decide), j15]
        rw [hmod none none, j15, aR_5, aR_2, p_ck _ (by rw [nI_toInt (by omega)]; omega), nI_clamp (by omega), p_seq]
        obtain ⟨q3, q4, x3, x4, V2, hs2⟩ := w_next (st_w2 hs1 (X + 5) sg) ⟨q, hq, a5, by rw [p_wI_o (by omega)]; exact a14, by omega⟩
        rw [x3, x4, p_bd, p_bd, to_old]
        have Z2 := wF_tr (wF_w2 V1 (X + 5) sg) V2
        rcases w_num hs2 (lo := 0) (hi := 99) (x := X + 2) (by omega) (by omega) (by omega) with ⟨v, q5, q6, v1, v9, y1, y2, V3, hs3⟩ | ⟨q5, q6, y1, y2, V3, hfl⟩
        · have y1' : fX4_wantNumber rfC 137 0 99 q3 = some (nI v, q5) := y1
          have y2' : fX12_number rfM 0 (nI (X + 2)) 0 99 q4 = some (1, q6) := y2
          have Z3 := wF_tr (wF_w2 Z2 (X + 2) (nI v)) V3
          have g2 : q5.1 55 2 = nI k := by rw [Z3.1 55 (by omega)]; exact h2
          rw [y1', y2', p_bd, e3_add g2 hk, p_bd, if_neg (nI_nm1 (by omega))]
          obtain ⟨r1, r2, r3, r4, r5⟩ := addP_r q5 k 20 sg (nI v) 0
          refine ⟨1, _, q6, rfl, rfl, dW_p (dW_0 (X := X) (k := k) (k2 := k2) Z3 (fun i hi => by rw [p_wI_o hi, p_wI_o hi, p_wI_o hi]) (fun q hq => by rw [p_wI1, if_neg (by omega), p_wI1, if_neg (by omega), p_wI1, if_neg (by omega)]) rfl) _ _ _ _, Or.inr ⟨rfl, st_p hs3 _ _ _ _, r1, r2, ?_, fun z => absurd z (by decide)⟩⟩
          rw [r3, r4]
          refine Or.inr (Or.inr (Or.inr (Or.inr (Or.inr (Or.inr (Or.inl ⟨rfl, Or.inr (Or.inr ⟨hsg, ?_, ?_, ?_⟩)⟩))))))
          · show q6.1 1 (X + 0) = 2025
            rw [Z3.2.2.2.1 1 (by omega), p_wI1, if_neg (by omega), p_wI1, if_neg (by omega), p_wI1, if_pos ⟨rfl, rfl⟩]
          · show q6.1 1 (X + 5) = sg
            rw [Z3.2.2.2.1 1 (by omega), p_wI1, if_neg (by omega), p_wI1, if_pos ⟨rfl, rfl⟩]
          · show q6.1 1 (X + 2) = nI v
            rw [Z3.2.2.2.1 1 (by omega), p_wI1, if_pos ⟨rfl, rfl⟩]
        · have y1' : fX4_wantNumber rfC 137 0 99 q3 = some (-1, q5) := y1
          have y2' : fX12_number rfM 0 (nI (X + 2)) 0 99 q4 = some (0, q6) := y2
          have Z3 := wF_tr Z2 V3
          have g2 : q5.1 55 2 = nI k := by rw [Z3.1 55 (by omega)]; exact h2
          rw [y1', y2', p_bd, e3_add g2 hk, p_bd, if_pos rfl]
          exact ⟨0, _, q6, rfl, rfl, dW_p (dW_0 (X := X) (k := k) (k2 := k2) Z3 (fun i hi => by rw [p_wI_o hi, p_wI_o hi]) (fun q hq => by rw [p_wI1, if_neg (by omega), p_wI1, if_neg (by omega)]) rfl) _ _ _ _, Or.inl ⟨rfl, fl_p hfl _ _ _ _⟩⟩
    · rw [if_neg j1]
      simp only [if_neg j2, p_bd, if_true]
      rw [to_old (A := o_bd (fX12_fails rfM 0 2 q2) fun r1 μ1 => some (r1, μ1))]
      exact bad
  rw [if_neg c22]
  by_cases c23 : k1.1 137 8 = 23
  · have hy26 := e23.mp c23
    rw [if_pos c23, c23, hy26, if_pos (show (24 : Int32) ≤ 26 by decide), p_ck _ (by rw [nI_toInt (by omega)]; omega), nI_clamp (by omega), p_seq, show (2000 : Int32) + 26 = 2026 from rfl]
    obtain ⟨q1, q2, x1, x2, V1, hs1⟩ := w_next (st_w2 hs X 2026) (by
      obtain ⟨q, a1, a2, a3, a4⟩ := adv_of 23 (by omega) c23
      exact ⟨q, a1, a2, by rw [p_wI_o (by omega)]; exact a3, a4⟩)
    have g2 : q1.1 55 2 = nI k := by rw [V1.1 55 (by omega)]; exact h2
    rw [x1, x2, p_bd, p_bd, if_neg (show ¬ (23 : Int32) = 21 by decide), if_neg (show ¬ (23 : Int32) = 22 by decide), if_pos (show (26 : Int32) = 26 from rfl), e3_add g2 hk, p_bd, if_neg (show ¬ (0 : Int32) = -1 by decide)]
    obtain ⟨r1, r2, r3, r4, r5⟩ := addP_r q1 k 20 23 0 0
    refine ⟨1, _, q2, rfl, rfl, dW_p (dW_0 (X := X) (k := k) (k2 := k2) V1 (fun i hi => p_wI_o hi) (fun q hq => by rw [p_wI1, if_neg (by omega)]) rfl) _ _ _ _, Or.inr ⟨rfl, st_p hs1 _ _ _ _, r1, r2, ?_, fun z => absurd z (by decide)⟩⟩
    rw [r3, r4]
    refine Or.inr (Or.inr (Or.inr (Or.inr (Or.inr (Or.inr (Or.inl ⟨rfl, Or.inr (Or.inl ⟨rfl, ?_⟩)⟩))))))
    show q2.1 1 (X + 0) = 2026
    rw [V1.2.2.2.1 1 (by omega), p_wI1, if_pos ⟨rfl, rfl⟩]
  rw [if_neg c23]
  have hlt : ¬ (24 : Int32) ≤ y := by
    rcases hkr with ⟨c, hc, hx, rfl⟩ | ⟨-, rfl⟩
    · intro z
      have hpl := pm_lt c hc
      have hge := (n_le (a := 24) (b := pmL.getD c 0) (by omega) (by omega)).mp z
      have : ∀ c, c < 27 → 24 ≤ pmL.getD c 0 → c = 21 ∨ c = 22 ∨ c = 23 := by decide +kernel
      rcases this c hc hge with rfl | rfl | rfl
      · exact c21 hx
      · exact c22 hx
      · exact c23 hx
    · decide
  rw [if_neg hlt]
  obtain ⟨f1, f2, fq1, fq2, hF, hf⟩ := w_fail hs (x := 2) (by omega) (by omega)
  rw [show (2 : Int32) = nI 2 from rfl, fq1, fq2]
  exact ⟨0, f1, f2, rfl, rfl, dW_0 (X := X) (k := k) (k2 := k2) hF (fun _ _ => rfl) (fun _ _ => rfl) rfl, Or.inl ⟨rfl, hf⟩⟩
end rs
