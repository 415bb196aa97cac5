/-! ===== valley: begin and end ===== -/
theorem i8_t : ∀ k : Nat, k < 256 → (iN ((k : Int) - 128)).toInt8.toInt32 = iN ((k : Int) - 128) := by decide +kernel
theorem i8_id {x : Int32} (h : -128 ≤ x.toInt ∧ x.toInt < 128) : x.toInt8.toInt32 = x := by
  have e := i8_t (x.toInt + 128).toNat (by omega)
  rw [show (((x.toInt + 128).toNat : Nat) : Int) - 128 = x.toInt by omega, ← iN_of (by omega)] at e
  exact e
section bg
variable {μC μM : o_Mem}
/-- a TEXT is begun -/
theorem w_begin (h : iTp μC μM) {n lim : Nat} {x : Int32} (hx : x = nI n) (hn : ∃ N, n ≤ N ∧ N ≤ 900 ∧ μC.1 137 1 = nI N) (hl : n ≤ lim) (hl9 : lim ≤ 900) : ∃ l1 l2, fX4_begin rfC 137 x μC = some ((), l1) ∧ fX12_begins rfM 0 x (nI lim) μM = some (1, l2) ∧ stT (μC.1 138) n l1 l2 ∧ ((∀ i, i ≠ 137 → l1.1 i = μC.1 i) ∧ l1.1 137 1 = 0 ∧ ∀ i, i ≠ 137 → l1.2 i = μC.2 i) ∧ (∀ i, i ≠ 0 → i ≠ 7 → l2.1 i = μM.1 i) ∧ (∀ k, k < 10 ∨ k = 16 ∨ 20 ≤ k → l2.1 0 k = μM.1 0 k) ∧ l2.1 0 10 = 0 ∧ l2.2 = μM.2 := by
  obtain ⟨N, hnN, hN9, e1⟩ := hn
  obtain ⟨N', a1, a2, a3, a4⟩ := h
  have hNN : N' = N := by rw [e1, nI_inj (by omega) (by omega)] at a2; exact a2.symm
  rw [hNN] at a3 a4
  rw [hx]
  unfold fX4_begin fX12_begins
  rw [e1, a3, if_neg (show ¬ nI n > nI N from fun z => by have := (n_lt (a := N) (b := n) (by omega) (by omega)).mp z; omega), if_neg (show ¬ nI n < 0 by rw [show (0 : Int32) = nI 0 from rfl, n_lt (by omega) (by omega)]; omega), if_neg (show ¬ nI N < nI n from fun z => by have := (n_lt (by omega) (by omega)).mp z; omega), if_pos ((n_le (by omega) (by omega)).mpr hl)]
  simp only [p_seq]
  obtain ⟨e, k2, q2, rfl, b1, b2, b3⟩ := lp_one (h := 26) (s := fX12_begins_s26 rfM 0 (nI n))
    (fun i τ μ => ∃ k, k + i = n ∧ τ = nI k ∧ (∀ i, i ≠ 7 → μ.1 i = (o_wI μM 0 11 (nI n)).1 i) ∧ μ.2 = μM.2 ∧ ∀ j, j < k → μ.1 7 j = μC.1 138 j)
    (fun e μ => e = (49, 0) ∧ (∀ i, i ≠ 7 → μ.1 i = (o_wI μM 0 11 (nI n)).1 i) ∧ μ.2 = μM.2 ∧ ∀ j, j < n → μ.1 7 j = μC.1 138 j)
    (fun i τ μ hR => by
      obtain ⟨k, hk, rfl, h1, h2, h3⟩ := hR
      unfold fX12_begins_s26
      rw [qm_8, qm_9]
      by_cases hi : i = 0
      · rw [if_pos ((n_le (by omega) (by omega)).mpr (by omega))]
        exact ⟨_, _, rfl, Or.inr ⟨show ¬ 49 = 26 by decide, rfl, h1, h2, fun j hj => h3 j (by omega)⟩⟩
      · rw [if_neg (fun z => by rw [n_le (by omega) (by omega)] at z; omega)]
        have hb := a4 k (by omega)
        have e6 : μ.1 6 k = μC.1 138 k := by rw [h1 6 (by omega), p_wI_o (by omega)]; exact hb.1.symm
        simp (disch := omega) only [nI_toInt, nI_clamp, p_ck, p_seq, aR_1, e6, i8_id hb.2]
        refine ⟨_, _, rfl, Or.inl ⟨rfl, i - 1, by omega, k + 1, by omega, rfl, fun i hi => by rw [p_wI_o hi]; exact h1 i hi, h2, fun j hj => ?_⟩⟩
        rw [p_wI1]
        by_cases ejk : j = k
        · rw [if_pos ⟨rfl, ejk⟩, ejk]
        · rw [if_neg (fun z => ejk z.2)]; exact h3 j (by omega))
    o_fuel n 0 (o_wI μM 0 11 (nI n)) (fu (by omega)) ⟨0, by omega, rfl, fun i _ => rfl, rfl, fun j hj => by omega⟩
  rw [q2, p_bd, if_pos rfl]
  generalize hA : o_wI (o_wI (o_wI (o_wI (o_wI μC 137 4 (nI n)) 137 1 0) 137 5 0) 137 2 0) 137 3 (-1) = A
  generalize hB : o_wI (o_wI (o_wI (o_wI (o_wI k2 0 10 0) 0 18 0) 0 17 (-1)) 0 14 0) 0 19 0 = B
  have A1 : ∀ i, i ≠ 137 → A.1 i = μC.1 i := fun i hi => by rw [← hA, p_wI_o hi, p_wI_o hi, p_wI_o hi, p_wI_o hi, p_wI_o hi]
  have A2 : A.2 = μC.2 := by rw [← hA]; rfl
  have A4 : A.1 137 4 = nI n := by rw [← hA, p_wI1, if_neg (by omega), p_wI1, if_neg (by omega), p_wI1, if_neg (by omega), p_wI1, if_neg (by omega), p_wI1, if_pos ⟨rfl, rfl⟩]
  have A11 : A.1 137 1 = 0 := by rw [← hA, p_wI1, if_neg (by omega), p_wI1, if_neg (by omega), p_wI1, if_neg (by omega), p_wI1, if_pos ⟨rfl, rfl⟩]
  have A5 : A.1 137 5 = nI 0 := by rw [← hA, p_wI1, if_neg (by omega), p_wI1, if_neg (by omega), p_wI1, if_pos ⟨rfl, rfl⟩]; rfl
  have A22 : A.1 137 2 = 0 := by rw [← hA, p_wI1, if_neg (by omega), p_wI1, if_pos ⟨rfl, rfl⟩]
  have A3 : A.1 137 3 = -1 := by rw [← hA, p_wI1, if_pos ⟨rfl, rfl⟩]
  have B1 : ∀ i, i ≠ 0 → B.1 i = k2.1 i := fun i hi => by rw [← hB, p_wI_o hi, p_wI_o hi, p_wI_o hi, p_wI_o hi, p_wI_o hi]
  have B2 : B.2 = k2.2 := by rw [← hB]; rfl
  have B0 : ∀ k, k ≠ 10 → k ≠ 18 → k ≠ 17 → k ≠ 14 → k ≠ 19 → B.1 0 k = k2.1 0 k := fun k h1 h2 h3 h4 h5 => by rw [← hB, p_wI1, if_neg (by omega), p_wI1, if_neg (by omega), p_wI1, if_neg (by omega), p_wI1, if_neg (by omega), p_wI1, if_neg (by omega)]
  have B10 : B.1 0 10 = 0 := by rw [← hB, p_wI1, if_neg (by omega), p_wI1, if_neg (by omega), p_wI1, if_neg (by omega), p_wI1, if_neg (by omega), p_wI1, if_pos ⟨rfl, rfl⟩]
  have B18 : B.1 0 18 = 0 := by rw [← hB, p_wI1, if_neg (by omega), p_wI1, if_neg (by omega), p_wI1, if_neg (by omega), p_wI1, if_pos ⟨rfl, rfl⟩]
  have B17 : B.1 0 17 = -1 := by rw [← hB, p_wI1, if_neg (by omega), p_wI1, if_neg (by omega), p_wI1, if_pos ⟨rfl, rfl⟩]
  have B14 : B.1 0 14 = nI 0 := by rw [← hB, p_wI1, if_neg (by omega), p_wI1, if_pos ⟨rfl, rfl⟩]; rfl
  have hx : txR (μC.1 138) n A B := by
    refine ⟨by omega, A4, ?_, fun k hk => ⟨by rw [A1 138 (by omega)], ?_, (a4 k (by omega)).2⟩⟩
    · rw [B0 11 (by omega) (by omega) (by omega) (by omega) (by omega), b1 0 (by omega), p_wI1, if_pos ⟨rfl, rfl⟩]
    · rw [B1 7 (by omega)]; exact b3 k hk
  obtain ⟨l1, l2, q1, q3, -, hF, ht⟩ := lex hx (p0 := 0) (by omega) A5 B14
  rw [q1, q3, p_bd, p_bd]
  refine ⟨l1, l2, rfl, rfl, ⟨lxF_tx hx hF, ht, ?_⟩, ⟨fun i hi => (hF.1 i hi).trans (A1 i hi), (hF.2.1 1 (by omega)).trans A11, fun i hi => by rw [hF.2.2.1 i hi, A2]⟩, fun i h1 h2 => by rw [hF.2.2.2.1 i h1, B1 i h1, b1 i h2, p_wI_o h1], fun k hk => ?_, ?_, ?_⟩
  · exact ⟨(hF.2.1 2 (by omega)).trans A22, (hF.2.1 3 (by omega)).trans A3, (hF.2.2.2.2.1 18 (by omega) (by omega) (by omega) (by omega)).trans B18, (hF.2.2.2.2.1 17 (by omega) (by omega) (by omega) (by omega)).trans B17⟩
  · rw [hF.2.2.2.2.1 k (by omega) (by omega) (by omega) (by omega), B0 k (by omega) (by omega) (by omega) (by omega) (by omega), b1 0 (by omega), p_wI1, if_neg (by omega)]
  · exact (hF.2.2.2.2.1 10 (by omega) (by omega) (by omega) (by omega)).trans B10
  · rw [hF.2.2.2.2.2, B2, b2]
end bg
/-- an empty VALLEY in the reference -/
def pl0 (q : Nat) : Int32 := if q = 12 then -1 else if q = 6 then 4 else if 31 ≤ q ∧ q < 79 then -1 else if 79 ≤ q ∧ q < 151 ∧ q % 2 = 1 then -1 else 0
theorem e12_plain {b : Nat} (hb : b + 626 ≤ 3756) (m : o_Mem) : ∃ m', fX12_plain rfM 0 (nI b) m = some ((), m') ∧ (∀ i, i ≠ 1 → m'.1 i = m.1 i) ∧ m'.2 = m.2 ∧ ∀ k, m'.1 1 k = if b ≤ k ∧ k < b + 626 then pl0 (k - b) else m.1 1 k := by
  unfold fX12_plain
  rw [qm_0]
  obtain ⟨e1, k1, q1, rfl, a1, a2, a3⟩ := lp_one (h := 2) (s := fX12_plain_s2 rfM 0 (nI b))
    (fun i τ μ => ∃ k, k + i = 626 ∧ τ = nI k ∧ (∀ i, i ≠ 1 → μ.1 i = m.1 i) ∧ μ.2 = m.2 ∧ ∀ j, μ.1 1 j = if b ≤ j ∧ j < b + k then 0 else m.1 1 j)
    (fun e μ => e = (24, 0) ∧ (∀ i, i ≠ 1 → μ.1 i = m.1 i) ∧ μ.2 = m.2 ∧ ∀ j, μ.1 1 j = if b ≤ j ∧ j < b + 626 then 0 else m.1 1 j)
    (fun i τ μ hR => by
      obtain ⟨k, hk, rfl, h1, h2, h3⟩ := hR
      unfold fX12_plain_s2
      rw [qm_0, show (626 : Int32) = nI 626 from rfl]
      by_cases hi : i = 0
      · rw [if_pos ((n_le (by omega) (by omega)).mpr (by omega))]
        exact ⟨_, _, rfl, Or.inr ⟨show ¬ 24 = 2 by decide, rfl, h1, h2, fun j => by rw [h3 j, show k = 626 by omega]⟩⟩
      · rw [if_neg (fun z => by rw [n_le (by omega) (by omega)] at z; omega)]
        simp (disch := omega) only [nI_add', nI_toInt, nI_clamp, p_ck, p_seq, aR_1]
        refine ⟨_, _, rfl, Or.inl ⟨rfl, i - 1, by omega, k + 1, by omega, rfl, fun i hi => by rw [p_wI_o hi]; exact h1 i hi, h2, fun j => ?_⟩⟩
        rw [p_wI1]
        by_cases e : j = b + k
        · rw [if_pos ⟨rfl, e⟩, if_pos (by omega)]
        · rw [if_neg (fun z => e z.2), h3 j]
          by_cases e2 : b ≤ j ∧ j < b + k
          · rw [if_pos e2, if_pos (by omega)]
          · rw [if_neg e2, if_neg (by omega)])
    o_fuel 626 0 m (fu (by omega)) ⟨0, by omega, rfl, fun i _ => rfl, rfl, fun j => by rw [if_neg (by omega)]⟩
  rw [q1, p_bd, if_pos rfl]
  obtain ⟨e2, k2, q2, rfl, b1, b2, b3⟩ := lp_one (h := 26) (s := fX12_plain_s26 rfM 0 (nI b))
    (fun i τ μ => ∃ k, k + i = 48 ∧ τ = nI k ∧ (∀ i, i ≠ 1 → μ.1 i = m.1 i) ∧ μ.2 = m.2 ∧ ∀ j, μ.1 1 j = if b + 31 ≤ j ∧ j < b + 31 + k then -1 else k1.1 1 j)
    (fun e μ => e = (50, 0) ∧ (∀ i, i ≠ 1 → μ.1 i = m.1 i) ∧ μ.2 = m.2 ∧ ∀ j, μ.1 1 j = if b + 31 ≤ j ∧ j < b + 31 + 48 then -1 else k1.1 1 j)
    (fun i τ μ hR => by
      obtain ⟨k, hk, rfl, h1, h2, h3⟩ := hR
      unfold fX12_plain_s26
      rw [qm_0, show (48 : Int32) = nI 48 from rfl]
      by_cases hi : i = 0
      · rw [if_pos ((n_le (by omega) (by omega)).mpr (by omega))]
        exact ⟨_, _, rfl, Or.inr ⟨show ¬ 50 = 26 by decide, rfl, h1, h2, fun j => by rw [h3 j, show k = 48 by omega]⟩⟩
      · rw [if_neg (fun z => by rw [n_le (by omega) (by omega)] at z; omega)]
        simp (disch := omega) only [aR_31, nI_add', nI_toInt, nI_clamp, p_ck, p_seq, aR_1]
        refine ⟨_, _, rfl, Or.inl ⟨rfl, i - 1, by omega, k + 1, by omega, rfl, fun i hi => by rw [p_wI_o hi]; exact h1 i hi, h2, fun j => ?_⟩⟩
        rw [p_wI1]
        by_cases e : j = b + 31 + k
        · rw [if_pos ⟨rfl, e⟩, if_pos (by omega)]
        · rw [if_neg (fun z => e z.2), h3 j]
          by_cases e2 : b + 31 ≤ j ∧ j < b + 31 + k
          · rw [if_pos e2, if_pos (by omega)]
          · rw [if_neg e2, if_neg (by omega)])
    o_fuel 48 0 k1 (fu (by omega)) ⟨0, by omega, rfl, a1, a2, fun j => by rw [if_neg (by omega)]⟩
  rw [q2, p_bd, if_pos rfl]
  obtain ⟨e3, k3, q3, rfl, c1, c2, c3⟩ := lp_one (h := 52) (s := fX12_plain_s52 rfM 0 (nI b))
    (fun i τ μ => ∃ k, k + i = 36 ∧ τ = nI k ∧ (∀ i, i ≠ 1 → μ.1 i = m.1 i) ∧ μ.2 = m.2 ∧ ∀ j, μ.1 1 j = if b + 79 ≤ j ∧ j < b + 79 + 2 * k ∧ (j - b) % 2 = 1 then -1 else k2.1 1 j)
    (fun e μ => e = (78, 0) ∧ (∀ i, i ≠ 1 → μ.1 i = m.1 i) ∧ μ.2 = m.2 ∧ ∀ j, μ.1 1 j = if b + 79 ≤ j ∧ j < b + 79 + 2 * 36 ∧ (j - b) % 2 = 1 then -1 else k2.1 1 j)
    (fun i τ μ hR => by
      obtain ⟨k, hk, rfl, h1, h2, h3⟩ := hR
      unfold fX12_plain_s52
      rw [qm_0, show (36 : Int32) = nI 36 from rfl]
      by_cases hi : i = 0
      · rw [if_pos ((n_le (by omega) (by omega)).mpr (by omega))]
        exact ⟨_, _, rfl, Or.inr ⟨show ¬ 78 = 52 by decide, rfl, h1, h2, fun j => by rw [h3 j, show k = 36 by omega]⟩⟩
      · rw [if_neg (fun z => by rw [n_le (by omega) (by omega)] at z; omega)]
        simp (disch := omega) only [aR_79, mL_2, nI_add', nI_toInt, nI_clamp, p_ck, p_seq, aR_1]
        refine ⟨_, _, rfl, Or.inl ⟨rfl, i - 1, by omega, k + 1, by omega, rfl, fun i hi => by rw [p_wI_o hi]; exact h1 i hi, h2, fun j => ?_⟩⟩
        rw [p_wI1]
        by_cases e : j = b + 79 + 2 * k
        · rw [if_pos ⟨rfl, e⟩, if_pos (by omega)]
        · rw [if_neg (fun z => e z.2), h3 j]
          by_cases e2 : b + 79 ≤ j ∧ j < b + 79 + 2 * k ∧ (j - b) % 2 = 1
          · rw [if_pos e2, if_pos (by omega)]
          · rw [if_neg e2, if_neg (by omega)])
    o_fuel 36 0 k2 (fu (by omega)) ⟨0, by omega, rfl, b1, b2, fun j => by rw [if_neg (by omega)]⟩
  rw [q3, p_bd, if_pos rfl]
  simp (disch := omega) only [aR_6, aR_12, nI_toInt, nI_clamp, p_ck, p_seq]
  refine ⟨_, rfl, fun i hi => by rw [p_wI_o hi, p_wI_o hi]; exact c1 i hi, c2, fun k => ?_⟩
  rw [p_wI1, p_wI1, c3 k, b3 k, a3 k]
  unfold pl0
  by_cases f1 : k = b + 12
  · rw [if_pos ⟨rfl, f1⟩, if_pos (by omega), if_pos (by omega)]
  rw [if_neg (fun z => f1 z.2)]
  by_cases f2 : k = b + 6
  · rw [if_pos ⟨rfl, f2⟩, if_pos (by omega), if_neg (by omega), if_pos (by omega)]
  rw [if_neg (fun z => f2 z.2)]
  by_cases f3 : b + 79 ≤ k ∧ k < b + 79 + 2 * 36 ∧ (k - b) % 2 = 1
  · rw [if_pos f3, if_pos (by omega), if_neg (by omega), if_neg (by omega), if_neg (by omega), if_pos (by omega)]
  rw [if_neg f3]
  by_cases f4 : b + 31 ≤ k ∧ k < b + 31 + 48
  · rw [if_pos f4, if_pos (by omega), if_neg (by omega), if_neg (by omega), if_pos (by omega)]
  rw [if_neg f4]
  by_cases f5 : b ≤ k ∧ k < b + 626
  · rw [if_pos f5, if_pos f5, if_neg (by omega), if_neg (by omega), if_neg (by omega), if_neg (by omega)]
  rw [if_neg f5, if_neg f5]
