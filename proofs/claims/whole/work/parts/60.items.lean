/-! ===== the parts of a VALLEY as they are read ===== -/
def pV (μC μM m1 m2 : o_Mem) : Prop := ((∀ i, i < 30 ∨ 50 ≤ i → i ≠ 137 → i ≠ 139 → m1.1 i = μC.1 i) ∧ (∀ k, k = 0 ∨ k = 1 ∨ k = 4 → m1.1 137 k = μC.1 137 k) ∧ (∀ i, i < 30 ∨ 50 ≤ i → i ≠ 137 → m1.2 i = μC.2 i)) ∧
  ((∀ i, i ≠ 0 → i ≠ 1 → m2.1 i = μM.1 i) ∧ (∀ k, k ≤ 11 ∨ k = 16 ∨ k = 19 ∨ 21 ≤ k → m2.1 0 k = μM.1 0 k) ∧ (∀ k, k < 2504 ∨ 3130 ≤ k → m2.1 1 k = μM.1 1 k) ∧ (∀ i, i ≠ 2 → m2.2 i = μM.2 i) ∧ (∀ k, k < 64 ∨ 80 ≤ k → m2.2 2 k = μM.2 2 k)) ∧ (m1.1 139 2 = m2.1 0 20 ∧ (μC.1 137 6).toInt ≤ (m1.1 137 6).toInt)
section it
variable {T : Nat → Int32} {n s h p l w : Nat} {μC μM m1 m2 l1 l2 : o_Mem}
theorem pV_w (a : pV μC μM m1 m2) (b : wF m1 m2 l1 l2) : pV μC μM l1 l2 := ⟨⟨fun i h1 h2 h3 => (b.1 i h2).trans (a.1.1 i h1 h2 h3), fun k hk => (b.2.1.1 k hk).trans (a.1.2.1 k hk), fun i h1 h2 => (b.2.2.1 i h2).trans (a.1.2.2 i h1 h2)⟩, ⟨fun i h1 h2 => (b.2.2.2.1 i h1).trans (a.2.1.1 i h1 h2), fun k hk => (b.2.2.2.2.1 k (by omega) (by omega) (by omega) (by omega) (by omega) (by omega)).trans (a.2.1.2.1 k hk), fun k hk => by rw [b.2.2.2.1 1 (by omega)]; exact a.2.1.2.2.1 k hk, fun i hi => by rw [b.2.2.2.2.2]; exact a.2.1.2.2.2.1 i hi, fun k hk => by rw [b.2.2.2.2.2]; exact a.2.1.2.2.2.2 k hk⟩, ⟨by rw [b.1 139 (by omega), b.2.2.2.2.1 20 (by omega) (by omega) (by omega) (by omega) (by omega) (by omega)]; exact a.2.2.1, Int.le_trans a.2.2.2 b.2.1.2⟩⟩
theorem pV_1 (a : pV μC μM m1 m2) {c : Nat} (hc : 30 ≤ c ∧ c < 50) (k : Nat) (x : Int32) : pV μC μM (o_wI m1 c k x) m2 := ⟨⟨fun i h1 h2 h3 => by rw [p_wI_o (by omega)]; exact a.1.1 i h1 h2 h3, fun q hq => by rw [p_wI_o (by omega)]; exact a.1.2.1 q hq, a.1.2.2⟩, a.2.1, by rw [p_wI_o (show 139 ≠ c by omega), p_wI_o (show 137 ≠ c by omega)]; exact a.2.2⟩
theorem pV_2 (a : pV μC μM m1 m2) {k : Nat} (hk : 2504 ≤ k ∧ k < 3130) (x : Int32) : pV μC μM m1 (o_wI m2 1 k x) := ⟨a.1, ⟨fun i h1 h2 => by rw [p_wI_o h2]; exact a.2.1.1 i h1 h2, fun q hq => by rw [p_wI_o (by omega)]; exact a.2.1.2.1 q hq, fun q hq => by rw [p_wI1, if_neg (by omega)]; exact a.2.1.2.2.1 q hq, a.2.1.2.2.2⟩, by rw [p_wI_o (show 0 ≠ 1 by omega)]; exact a.2.2⟩
theorem pV_l (a : pV μC μM m1 m2) {k : Nat} (hk : 64 ≤ k ∧ k < 80) (j : Nat) (x y : Int64) : pV μC μM (o_wL m1 49 j x) (o_wL m2 2 k y) := ⟨⟨a.1.1, a.1.2.1, fun i h1 h2 => by funext q; rw [p_wL2, if_neg (by omega)]; rw [a.1.2.2 i h1 h2]⟩, ⟨a.2.1.1, a.2.1.2.1, a.2.1.2.2.1, fun i hi => by funext q; rw [p_wL2, if_neg (fun z => hi z.1)]; rw [a.2.1.2.2.2.1 i hi], fun q hq => by rw [p_wL2, if_neg (by omega)]; exact a.2.1.2.2.2.2 q hq⟩, a.2.2⟩
abbrev nwS (s h p l w : Nat) (m1 m2 : o_Mem) : Prop := nwX s h p l w (bV m1 30) (mS m2 2504) (m1.2 49) (fun k => m2.2 2 (64 + k))
def vSt (T : Nat → Int32) (n : Nat) (μC μM : o_Mem) (s h p l w : Nat) (m1 m2 : o_Mem) : Prop := stT T n m1 m2 ∧ nwS s h p l w m1 m2 ∧ pV μC μM m1 m2
theorem vs_nw (hv : vSt T n μC μM s h p l w m1 m2) : nwR m1 m2 := nx_ok hv.2.1
/-- what comes of a part -/
def itO (T : Nat → Int32) (n : Nat) (μC μM : o_Mem) (A B : Option (Int32 × o_Mem)) : Prop := (∃ l1 l2, A = some (0, l1) ∧ B = some (0, l2) ∧ pV μC μM l1 l2 ∧ fl l1 l2) ∨ (∃ s h p l w k1 k2, A = (o_bd (fX4_wantClose rfC 137 k1) fun r μ => some (r, μ)) ∧ B = some (1, k2) ∧ vSt T n μC μM s h p l w k1 k2)
theorem it_strike (hv : vSt T n μC μM s h p l w m1 m2) (ha : adv n m1 m2) : itO T n μC μM (fX9_takeStrike rfC 139 m1) (fX12_aStrike rfM 0 m2) := by
  obtain ⟨hst, hnw, hpv⟩ := hv
  have hb : nwR m1 m2 := nx_ok hnw
  obtain ⟨cs', ch', cp', -⟩ := nx_cnt hnw
  have hnw0 := hnw
  obtain ⟨⟨b1, b2, b3, b4, b5, b6, bb⟩, -, ⟨v0, -⟩, -⟩ := hnw0
  have e504 : m2.1 1 2504 = nI s := v0
  have e30 : m1.1 30 0 = nI s := b1
  unfold fX9_takeStrike fX12_aStrike fX9_takeStrike_j77 fX12_aStrike_j57
  rw [rc139_0, rc139_1, qm_0]
  have hW := w_new hb hst ha (kd := 0) (c := s) (off := 0) (lim := 6) (Or.inl ⟨rfl, rfl, rfl, cs'.symm⟩)
  rcases hW with ⟨hf, l1, l2, q1, q2, hF, hfl⟩ | ⟨hf, hs6, k1, q1, hW⟩
  · have hf' : ¬ m1.1 30 0 < 6 := hf
    have q2' : fX12_newOne rfM 0 0 6 0 m2 = some (0, l2) := q2
    rw [if_neg hf', q1, q2', p_bd, p_bd, if_pos rfl]
    exact Or.inl ⟨l1, l2, rfl, rfl, pV_w hpv hF, hfl⟩
  · have hf' : m1.1 30 0 < 6 := hf
    rw [if_pos hf', q1, p_bd]
    rcases hW with ⟨cs, l1, l2, c1, c2, c3, x1, x2, W1, hs1⟩ | ⟨l1, l2, x1, x2, hF, hfl⟩
    · have x1' : fX9_wantNew rfC 139 0 k1 = some (1, l1) := x1
      have x2' : fX12_newOne rfM 0 0 6 0 m2 = some (1, l2) := x2
      rw [x1', x2', p_bd, p_bd, if_neg (show ¬ (1 : Int32) = 0 by decide), if_neg (show ¬ (1 : Int32) = 0 by decide), e504, mL_2, show (2517 : Int32) + nI (2 * s) = nI (2517 + 2 * s) from nI_add 2517 (2 * s)]
      simp (disch := omega) only [nI_toInt, nI_clamp, p_ck, p_seq]
      have hpv1 := pV_w (pV_l hpv (k := 64 + 0 + s) (by omega) (6 * 0 + s) (lN (e32 cs)) (lN (e256 cs))) W1
      -- how it ends
      have fin : ∀ (v : Nat) (l5 l6 : o_Mem), v ≤ 9 → stT T n l5 l6 → pV μC μM l5 l6 → (∀ i, i ≠ 137 → l5.1 i = m1.1 i) → l5.2 49 = (o_wL m1 49 (6 * 0 + s) (lN (e32 cs))).2 49 → (∀ k, l6.1 1 k = if k = 2517 + 2 * s then nI v else m2.1 1 k) → l6.2 = (o_wL m2 2 (64 + 0 + s) (lN (e256 cs))).2 → itO T n μC μM (o_ck (0 ≤ (l5.1 30 0).toInt ∧ (l5.1 30 0).toInt < 6) (o_seq (o_wI l5 (rfC 30 9) (l5.1 30 0).toNatClampNeg (nI v)) fun μ1 => o_seq (o_wI μ1 30 0 (μ1.1 30 0 + 1)) fun μ2 => o_bd (fX4_wantClose rfC 137 μ2) fun r1 μ3 => some (r1, μ3))) (o_seq (o_wI l6 1 2504 (l6.1 1 2504 + 1)) fun μ1 => some (1, μ1)) := fun v l5 l6 hv9 hs5 hp5 f1 f2 f3 f4 => by
        have g30 : l5.1 30 0 = nI s := by rw [f1 30 (by omega)]; exact e30
        have g504 : l6.1 1 2504 = nI s := by rw [f3, if_neg (by omega)]; exact e504
        have g30' : (o_wI l5 31 s (nI v)).1 30 0 = nI s := by rw [p_wI_o (by omega)]; exact g30
        rw [show rfC 30 9 = 31 by decide]
        simp (disch := omega) only [g30, g504, nI_toInt, nI_clamp, p_ck, p_seq, aR_1, g30']
        refine Or.inr ⟨s + 1, h, p, l, w, _, _, rfl, rfl, st_w2 (st_w1 (st_w1 hs5 (by omega) s (nI v)) (by omega) 0 (nI (s + 1))) 2504 (nI (s + 1)), ?_, pV_2 (pV_1 (pV_1 hp5 (by omega) _ _) (by omega) _ _) (by omega) _⟩
        refine nx_strike hnw hs6 hv9 ?_ ?_ (fun j k hj z1 z2 => ?_) ?_ ?_ (fun k z1 z2 => ?_) c1 c2 c3 ?_ ?_ (fun k hk => ?_) (fun k hk => ?_)
        · show (o_wI (o_wI l5 31 s (nI v)) 30 0 (nI (s + 1))).1 (30 + 0) 0 = _
          rw [p_wI1, if_pos ⟨rfl, rfl⟩]
        · show (o_wI (o_wI l5 31 s (nI v)) 30 0 (nI (s + 1))).1 (30 + 1) s = _
          rw [p_wI_o (by omega), p_wI1, if_pos ⟨rfl, rfl⟩]
        · show (o_wI (o_wI l5 31 s (nI v)) 30 0 (nI (s + 1))).1 (30 + j) k = m1.1 (30 + j) k
          rw [p_wI1, if_neg (by omega), p_wI1, if_neg (by omega), f1 _ (by omega)]
        · show (o_wI l6 1 2504 (nI (s + 1))).1 1 (2504 + 0) = _
          rw [p_wI1, if_pos ⟨rfl, rfl⟩]
        · show (o_wI l6 1 2504 (nI (s + 1))).1 1 (2504 + (13 + 2 * s)) = _
          rw [p_wI1, if_neg (by omega), f3, if_pos (by omega)]
        · show (o_wI l6 1 2504 (nI (s + 1))).1 1 (2504 + k) = m2.1 1 (2504 + k)
          rw [p_wI1, if_neg (by omega), f3, if_neg (by omega)]
        · show l5.2 49 s = _
          rw [f2, p_wL2, if_pos ⟨rfl, by omega⟩]
        · show l6.2 2 (64 + s) = _
          rw [f4, p_wL2, if_pos ⟨rfl, by omega⟩]
        · show l5.2 49 k = m1.2 49 k
          rw [f2, p_wL2, if_neg (by omega)]
        · show l6.2 2 (64 + k) = m2.2 2 (64 + k)
          rw [f4, p_wL2, if_neg (by omega)]
      have hs1' := st_w2 hs1 (2517 + 2 * s) 1
      have hpv2 := pV_2 hpv1 (k := 2517 + 2 * s) (by omega) 1
      rcases w_there hs1' (c := 1) (by omega) with ⟨hw1, l3, l4, y1, y2, W2, hs3⟩ | ⟨hw1, y2⟩
      · have hw1' : l1.1 137 8 = 1 := hw1
        have y2' : fX12_isThere rfM 0 7 (o_wI l2 1 (2517 + 2 * s) 1) = some (1, l4) := y2
        rw [if_pos hw1', y1, y2', p_bd, p_bd, if_neg (show ¬ (1 : Int32) = 0 by decide)]
        have hpv3 := pV_w hpv2 W2
        rcases w_num hs3 (lo := 0) (hi := 9) (x := 2517 + 2 * s) (by omega) (by omega) (by omega) with ⟨v, l5, l6, v0, v9, z1, z2, W3, hs5⟩ | ⟨l5, l6, z1, z2, W3, hfl⟩
        · have z1' : fX4_wantNumber rfC 137 0 9 l3 = some (nI v, l5) := z1
          have z2' : fX12_number rfM 0 (nI (2517 + 2 * s)) 0 9 l4 = some (1, l6) := z2
          rw [z1', z2', p_bd, p_bd, if_neg (nI_nm1 (by omega)), if_neg (show ¬ (1 : Int32) = 0 by decide)]
          refine fin v l5 l6 v9 hs5 (pV_w (pV_2 hpv3 (by omega) _) W3) (fun i hi => (W3.1 i hi).trans ((W2.1 i hi).trans (W1.1 i hi))) ((W3.2.2.1 49 (by omega)).trans ((W2.2.2.1 49 (by omega)).trans (W1.2.2.1 49 (by omega)))) (fun k => ?_) (W3.2.2.2.2.2.trans (W2.2.2.2.2.2.trans W1.2.2.2.2.2))
          rw [W3.2.2.2.1 1 (by omega), p_wI1]
          by_cases e : k = 2517 + 2 * s
          · rw [if_pos ⟨rfl, e⟩, if_pos e]
          · rw [if_neg (fun z => e z.2), if_neg e, W2.2.2.2.1 1 (by omega), p_wI1, if_neg (fun z => e z.2), W1.2.2.2.1 1 (by omega)]
            rfl
        · have z1' : fX4_wantNumber rfC 137 0 9 l3 = some (-1, l5) := z1
          have z2' : fX12_number rfM 0 (nI (2517 + 2 * s)) 0 9 l4 = some (0, l6) := z2
          rw [z1', z2', p_bd, p_bd, if_pos rfl, if_pos rfl]
          exact Or.inl ⟨l5, l6, rfl, rfl, pV_w hpv3 W3, hfl⟩
      · have hw1' : ¬ l1.1 137 8 = 1 := hw1
        have y2' : fX12_isThere rfM 0 7 (o_wI l2 1 (2517 + 2 * s) 1) = some (0, o_wI l2 1 (2517 + 2 * s) 1) := y2
        rw [if_neg hw1', y2', p_bd, if_pos rfl]
        refine fin 1 l1 (o_wI l2 1 (2517 + 2 * s) 1) (by omega) hs1' hpv2 (fun i hi => W1.1 i hi) (W1.2.2.1 49 (by omega)) (fun k => ?_) W1.2.2.2.2.2
        rw [p_wI1]
        by_cases e : k = 2517 + 2 * s
        · rw [if_pos ⟨rfl, e⟩, if_pos e]; rfl
        · rw [if_neg (fun z => e z.2), if_neg e, W1.2.2.2.1 1 (by omega)]
          rfl
    · have x1' : fX9_wantNew rfC 139 0 k1 = some (0, l1) := x1
      have x2' : fX12_newOne rfM 0 0 6 0 m2 = some (0, l2) := x2
      rw [x1', x2', p_bd, p_bd, if_pos rfl, if_pos rfl]
      exact Or.inl ⟨l1, l2, rfl, rfl, pV_w hpv hF, hfl⟩
end it
