/-! ===== games: the class ===== -/
theorem par {d : Nat} (hd : d < 100) : (nI d - nI d / 2 * 2 = 0) ↔ d % 2 = 0 := by
  rw [show nI d - nI d / 2 * 2 = nI (d % 2) from pk_rem (a := d) (d := 2) (by omega) (by omega) (by omega), show (0 : Int32) = nI 0 from rfl, nI_inj (by omega) (by omega)]
section cb
variable {μ : o_Mem} {n : Nat} {A B : Nat → Int}
theorem cl_taken (rc : Nat → Int32 → Int32 → Int32 → o_Mem → Option (Int32 × o_Mem)) (eA : ∀ i, i < n → μ.1 157 i = iN (A i)) (eB : ∀ i, i < n → μ.1 158 i = iN (B i)) (hA : ∀ i, i < n → 0 ≤ A i ∧ A i ≤ 9) (hB : ∀ i, i < n → 0 ≤ B i ∧ B i ≤ 9) (hn : n ≤ 12) {d T a i : Nat} (hd : d < 10) (hi : i < n) {b : Int} (hb : -100 ≤ b ∧ b ≤ 100) (h : rc 156 (nI (d + 1)) (nI T) (nI (a ||| 2 ^ i)) μ = some (iN b, μ)) : fX0_takenThenG rfC rc 156 (nI d) (nI T) (nI a) (nI i) μ = some (iN (pay A B d i + b), μ) := by
  have a1 := hA i hi
  have b1 := hB i hi
  unfold fX0_takenThenG fX0_takenThen_j24
  rw [rc156_1, rc156_2]
  simp (disch := omega) only [nI_toInt, nI_clamp, p_ck, aR_1, w_shl, w_or, h, p_bd, eA i hi, eB i hi, par]
  unfold pay
  by_cases hp : d % 2 = 0
  · rw [if_pos hp, if_pos hp, iN_add (by omega) (by omega)]
  · rw [if_neg hp, if_neg hp, iN_neg (by omega), iN_add (by omega) (by omega)]
theorem cl_best (e0 : μ.1 156 0 = nI n) (eA : ∀ i, i < n → μ.1 157 i = iN (A i)) (eB : ∀ i, i < n → μ.1 158 i = iN (B i)) (hA : ∀ i, i < n → 0 ≤ A i ∧ A i ≤ 9) (hB : ∀ i, i < n → 0 ≤ B i ∧ B i ≤ 9) (hn : n ≤ 12) : ∀ (k m d T a : Nat), k ≤ m → d + k = T → T ≤ 3 → a < 4096 → fX0_bestN rfC (m + 1) 156 (nI d) (nI T) (nI a) μ = some (iN (bst n A B k d a), μ) := by
  intro k
  induction k with
  | zero =>
    intro m d T a hk hd hT ha
    show fX0_bestG rfC _ 156 (nI d) (nI T) (nI a) μ = _
    unfold fX0_bestG
    rw [if_pos ((n_le (by omega) (by omega)).mpr (by omega))]
    rfl
  | succ k ih =>
    intro m d T a hk hd hT ha
    obtain ⟨m, rfl⟩ : ∃ m', m = m' + 1 := ⟨m - 1, by omega⟩
    show fX0_bestG rfC (fun a y0 y1 y2 y3 μ => fX0_takenThenG rfC (fX0_bestN rfC (m + 1)) a y0 y1 y2 y3 μ) 156 (nI d) (nI T) (nI a) μ = _
    unfold fX0_bestG
    rw [if_neg (fun z => by rw [n_le (by omega) (by omega)] at z; omega), if_pos (show nI d < 3 by rw [show (3 : Int32) = nI 3 from rfl, n_lt (by omega) (by omega)]; omega)]
    have hv : ∀ i, -1000 ≤ pay A B d i + bst n A B k (d + 1) (a ||| 2 ^ i) ∧ pay A B d i + bst n A B k (d + 1) (a ||| 2 ^ i) ≤ 1000 ∨ ¬ i < n := fun i => by
      by_cases hi : i < n
      · have p := pay_b hA hB d hi
        have q := bst_b hA hB k (d + 1) (a ||| 2 ^ i)
        exact Or.inl ⟨by omega, by omega⟩
      · exact Or.inr hi
    obtain ⟨v, hvd⟩ : ∃ v : Nat → Int, v = fun i => pay A B d i + bst n A B k (d + 1) (a ||| 2 ^ i) := ⟨_, rfl⟩
    have hv' : ∀ i, i < n → -1000 ≤ v i ∧ v i ≤ 1000 := fun i hi => by
      rw [hvd]
      rcases hv i with h | h
      · exact h
      · exact absurd hi h
    have hvt : ∀ i, i < n → fX0_takenThenG rfC (fX0_bestN rfC (m + 1)) 156 (nI d) (nI T) (nI a) (nI i) μ = some (iN (v i), μ) := fun i hi => by
      have q := bst_b hA hB k (d + 1) (a ||| 2 ^ i)
      rw [hvd]
      exact cl_taken _ eA eB hA hB hn (by omega) hi (by omega) (ih m (d + 1) T (a ||| 2 ^ i) (by omega) (by omega) hT (w_or_lt ha (by omega)))
    obtain ⟨e1, m1, q1, rfl, rfl⟩ := lp_one (h := 21) (s := fX0_best_s21 rfC (fun a y0 y1 y2 y3 μ => fX0_takenThenG rfC (fX0_bestN rfC (m + 1)) a y0 y1 y2 y3 μ) 156 (nI d) (nI T) (nI a))
      (fun N τ l => l = μ ∧ ∃ i, i + N = n ∧ τ.2.2 = nI i ∧ ((scn d a.testBit v i = none ∧ τ.1 = 0 ∧ τ.2.1 = 0) ∨ ∃ x, scn d a.testBit v i = some x ∧ τ.1 = iN x.1 ∧ τ.2.1 = 1))
      (fun e l => μ = l ∧ e = (108, (iN (valS (scn d a.testBit v n)), 0, 0)))
      (fun N τ l hR => by
        obtain ⟨rfl, i, hN, ht, hs⟩ := hR
        obtain ⟨t1, t2, t3⟩ := τ
        have ht : t3 = nI i := ht
        subst ht
        have hs : (scn d a.testBit v i = none ∧ t1 = 0 ∧ t2 = 0) ∨ ∃ x, scn d a.testBit v i = some x ∧ t1 = iN x.1 ∧ t2 = 1 := hs
        unfold fX0_best_s21
        rw [e0]
        by_cases hi : N = 0
        · rw [if_pos (show nI n ≤ nI i by rw [n_le (by omega) (by omega)]; omega)]
          refine ⟨_, _, rfl, Or.inr ⟨show ¬ 108 = 21 by decide, rfl, ?_⟩⟩
          have hin : i = n := by omega
          rw [hin] at hs
          rcases hs with ⟨h1, h2, -⟩ | ⟨x, h1, h2, -⟩
          · rw [h1, h2]; rfl
          · rw [h1, h2]; rfl
        · rw [if_neg (show ¬ nI n ≤ nI i by rw [n_le (by omega) (by omega)]; omega)]
          have hun : scn d a.testBit v (i + 1) = if a.testBit i then scn d a.testBit v i else match scn d a.testBit v i with
            | none => some (v i, i)
            | some x => if btr d x.1 (v i) then some (v i, i) else some x := rfl
          by_cases hb : a.testBit i = false
          · rw [if_pos ((w_bit ha (by omega)).mpr hb)]
            rw [hb, if_neg (by decide)] at hun
            show ∃ e m1, o_bd (fX0_takenThenG rfC (fX0_bestN rfC (m + 1)) 156 (nI d) (nI T) (nI a) (nI i) l) _ = some (e, m1) ∧ _
            rw [hvt i (by omega), p_bd]
            simp only [par (show d < 100 by omega)]
            unfold fX0_best_j83 fX0_best_j95
            rcases hs with ⟨h1, h2, h3⟩ | ⟨x, h1, h2, h3⟩
            · rw [h1] at hun
              rw [h3]
              refine ⟨(21, (iN (v i), 1, nI (i + 1))), l, ?_, Or.inl ⟨rfl, N - 1, by omega, rfl, i + 1, by omega, rfl, Or.inr ⟨(v i, i), hun, rfl, rfl⟩⟩⟩
              rw [if_pos (rfl : (0 : Int32) = 0), if_pos (rfl : (0 : Int32) = 0)]
              simp only [aR_1, ite_self]
            · rw [h1] at hun
              have hx := scn_mem i x h1
              have hxb := hv' x.2 (by omega)
              rw [hx.2.2] at hxb
              have hvi := hv' i (by omega)
              rw [h2, h3, if_neg (show ¬ (1 : Int32) = 0 by decide), if_neg (show ¬ (1 : Int32) = 0 by decide), if_pos (rfl : (0 : Int32) = 0), if_neg (show ¬ (1 : Int32) = 0 by decide)]
              have hun' : scn d a.testBit v (i + 1) = if btr d x.1 (v i) then some (v i, i) else some x := hun
              simp only [iN_le hvi hxb, iN_le hxb hvi, aR_1]
              unfold btr at hun'
              have keep : scn d a.testBit v (i + 1) = some x → ∃ e m1, some ((21, (iN x.1, (1 : Int32), nI (i + 1))), l) = some (e, m1) ∧ (e.1 = 21 ∧ ∃ k, k < N ∧ m1 = l ∧ ∃ i, i + k = n ∧ e.2.2.2 = nI i ∧ ((scn d a.testBit v i = none ∧ e.2.1 = 0 ∧ e.2.2.1 = 0) ∨ ∃ x, scn d a.testBit v i = some x ∧ e.2.1 = iN x.1 ∧ e.2.2.1 = 1)) := fun hk => ⟨_, _, rfl, rfl, N - 1, by omega, rfl, i + 1, by omega, rfl, Or.inr ⟨x, hk, rfl, rfl⟩⟩
              have take : scn d a.testBit v (i + 1) = some (v i, i) → ∃ e m1, some ((21, (iN (v i), (1 : Int32), nI (i + 1))), l) = some (e, m1) ∧ (e.1 = 21 ∧ ∃ k, k < N ∧ m1 = l ∧ ∃ i, i + k = n ∧ e.2.2.2 = nI i ∧ ((scn d a.testBit v i = none ∧ e.2.1 = 0 ∧ e.2.2.1 = 0) ∨ ∃ x, scn d a.testBit v i = some x ∧ e.2.1 = iN x.1 ∧ e.2.2.1 = 1)) := fun hk => ⟨_, _, rfl, rfl, N - 1, by omega, rfl, i + 1, by omega, rfl, Or.inr ⟨(v i, i), hk, rfl, rfl⟩⟩
              by_cases hp : d % 2 = 0
              · rw [if_pos hp] at hun' ⊢
                by_cases hle : v i ≤ x.1
                · rw [if_pos hle]
                  rw [if_neg (fun z => by have := of_decide_eq_true z; omega)] at hun'
                  obtain ⟨e, l1, x1, x2⟩ := keep hun'
                  exact ⟨e, l1, x1, Or.inl x2⟩
                · rw [if_neg hle]
                  rw [if_pos (decide_eq_true (by omega))] at hun'
                  obtain ⟨e, l1, x1, x2⟩ := take hun'
                  exact ⟨e, l1, x1, Or.inl x2⟩
              · rw [if_neg hp] at hun' ⊢
                by_cases hle : x.1 ≤ v i
                · rw [if_pos hle]
                  rw [if_neg (fun z => by have := of_decide_eq_true z; omega)] at hun'
                  obtain ⟨e, l1, x1, x2⟩ := keep hun'
                  exact ⟨e, l1, x1, Or.inl x2⟩
                · rw [if_neg hle]
                  rw [if_pos (decide_eq_true (by omega))] at hun'
                  obtain ⟨e, l1, x1, x2⟩ := take hun'
                  exact ⟨e, l1, x1, Or.inl x2⟩
          · have hbt : a.testBit i = true := by cases hh : a.testBit i with
              | true => rfl
              | false => exact absurd hh hb
            rw [if_neg (fun z => hb ((w_bit ha (by omega)).mp z))]
            rw [hbt, if_pos rfl] at hun
            exact ⟨_, _, rfl, Or.inl ⟨rfl, N - 1, by omega, rfl, i + 1, by omega, aR_1 i, by rw [hun]; exact hs⟩⟩)
      o_fuel n (0, 0, 0) μ (fu (by omega)) ⟨rfl, 0, by omega, rfl, Or.inl ⟨rfl, rfl, rfl⟩⟩
    rw [q1, p_bd, if_pos rfl, hvd]
    rfl
end cb
section st
variable {g : Nat → Nat → Int32} {μC μM : o_Mem}
def wtB (g : Nat → Nat → Int32) (o : Option Nat) : Int32 := if stkBy g o = -1 then 0 else g 1 (stkBy g o).toNatClampNeg
def wA (g : Nat → Nat → Int32) (k : Nat) : Int32 := wtB g (fstFit g (g 8 k) (g 9 k) (g 10 k) (g 11 k))
def wB (g : Nat → Nat → Int32) (k : Nat) : Int32 := wtB g (lstL g (g 8 k) (g 9 k) (g 10 k) (g 11 k))
theorem stk_ok (hw : wfV g) {o : Option Nat} (ho : ∀ l, o = some l → l < cL g) : (o = none ∧ stkBy g o = -1) ∨ ∃ l q, o = some l ∧ l < cL g ∧ q < cS g ∧ stkBy g o = nI q ∧ g 4 (6 * l) = nI q := by
  cases o with
  | none => exact Or.inl ⟨rfl, rfl⟩
  | some l =>
    obtain ⟨q, q1, -, q3⟩ := rg_nI (hw.2.2.2.2.1 l (ho l rfl)).1
    exact Or.inr ⟨l, q, rfl, ho l rfl, q1, q3, q3⟩
theorem wtB_ok (hw : wfV g) {o : Option Nat} (ho : ∀ l, o = some l → l < cL g) : 0 ≤ (wtB g o).toInt ∧ (wtB g o).toInt ≤ 9 := by
  have bS := hw.1.1.2
  unfold wtB
  rcases stk_ok hw ho with ⟨-, h⟩ | ⟨l, q, -, -, q1, h, -⟩
  · rw [if_pos h]; decide
  · rw [h, if_neg (nI_nm1 (by omega)), nI_clamp (by omega)]
    exact (hw.2.2.2.2.2.2.2.2.2.2.1 q q1).2
theorem e8_worthBy {m : o_Mem} (hw : wfV (bV m 10)) {o : Option Nat} (ho : ∀ l, o = some l → l < cL (bV m 10)) : fX8_worthBy rfC 10 (oI o) m = some (wtB (bV m 10) o, m) := by
  have bS := hw.1.1.2
  have bL := hw.1.2.2.2.1.2
  unfold fX8_worthBy wtB
  rw [e8_strikeBy k10 m o (fun l hl => by have := ho l hl; omega), p_bd, rc10_9]
  rcases stk_ok hw ho with ⟨-, h⟩ | ⟨l, q, -, -, q1, h, -⟩
  · rw [h, if_pos rfl, if_pos rfl]
  · rw [h, if_neg (nI_nm1 (by omega)), if_neg (nI_nm1 (by omega))]
    simp (disch := omega) only [nI_toInt, nI_clamp, p_ck]
    rfl
theorem e12_worth {m : o_Mem} (hw : wfV g) (hr : vR g (m.1 1)) {k : Nat} (hk : k < cW g) : fX12_worthBy rfM 0 (nI k) 1 m = some (wA g k, m) ∧ fX12_worthBy rfM 0 (nI k) 0 m = some (wB g k, m) := by
  have bS := hw.1.1.2
  have bL := hw.1.2.2.2.1.2
  have bW := hw.1.2.2.2.2.1.2
  have j80 : ∀ o : Option Nat, (∀ l, o = some l → l < cL g) → fX12_worthBy_j80 rfM 0 (oI o) m = some (wtB g o, m) := fun o ho => by
    unfold fX12_worthBy_j80 wtB fX12_lawRow fX12_strikeRow
    rcases stk_ok hw ho with ⟨rfl, h⟩ | ⟨l, q, rfl, hl, q1, h, h4⟩
    · rw [h, if_pos (rfl : (-1 : Int32) = -1)]; rfl
    · have e4 : m.1 1 (31 + 6 * l) = nI q := (hr.2.2.2.1 l 0 hl (by omega)).trans h4
      have e1 : m.1 1 (13 + 2 * q) = g 1 q := (hr.2.1 q q1).1
      rw [show oI (some l) = nI l from rfl, if_neg (nI_nm1 (by omega)), h, if_neg (nI_nm1 (by omega)), nI_clamp (by omega)]
      simp (disch := omega) only [p_bd, mL_6, aL_31, nI_toInt, nI_clamp, p_ck, qm_0, e4, mL_2, aL_13, e1]
  have l0 : m.1 1 (151 + 4 * k) = g 8 k := hr.2.2.2.2.2.1 k 0 hk (by omega)
  have l1 : m.1 1 (151 + 4 * k + 1) = g 9 k := hr.2.2.2.2.2.1 k 1 hk (by omega)
  have l2 : m.1 1 (151 + 4 * k + 2) = g 10 k := hr.2.2.2.2.2.1 k 2 hk (by omega)
  have l3 : m.1 1 (151 + 4 * k + 3) = g 11 k := hr.2.2.2.2.2.1 k 3 hk (by omega)
  unfold fX12_worthBy fX12_letterRow
  simp (disch := omega) only [p_bd, mL_4, aL_151, aR_1, aR_2, aR_3, nI_toInt, nI_clamp, p_ck, qm_0, l0, l1, l2, l3]
  rw [if_neg (show ¬ (1 : Int32) = 0 by decide), if_pos trivial, e12_firstLaw _ _ _ _ hw.1 hr, e12_lastLaw _ _ _ _ hw.1 hr, p_bd, p_bd, j80 _ (fun l hl => fstFit_lt hl), j80 _ (fun l hl => lstL_lt hl)]
  exact ⟨rfl, rfl⟩
/-- the brothers sit down -/
theorem e0_sit {m : o_Mem} (hw : wfV (bV m 10)) : ∃ m', fX0_sit rfC 156 10 m = some ((), m') ∧ (∀ i, i ≠ 156 → i ≠ 157 → i ≠ 158 → m'.1 i = m.1 i) ∧ m'.2 = m.2 ∧ m'.1 156 0 = nI (cW (bV m 10)) ∧ ∀ k, k < cW (bV m 10) → m'.1 157 k = wA (bV m 10) k ∧ m'.1 158 k = wB (bV m 10) k := by
  have bW := hw.1.2.2.2.2.1.2
  have eW : m.1 17 0 = nI (cW (bV m 10)) := hw.1.2.2.2.2.1.1
  unfold fX0_sit
  rw [rc10_15, p_seq, eW]
  obtain ⟨e1, m1, q1, rfl, F1, F2, F3, F4⟩ := lp_one (h := 15) (s := fX0_sit_s15 rfC 156 10 17)
    (fun N τ μ => ∃ k, k + N = cW (bV m 10) ∧ τ = nI k ∧ (∀ i, i ≠ 156 → i ≠ 157 → i ≠ 158 → μ.1 i = m.1 i) ∧ μ.2 = m.2 ∧ μ.1 156 0 = nI (cW (bV m 10)) ∧ ∀ j, j < k → μ.1 157 j = wA (bV m 10) j ∧ μ.1 158 j = wB (bV m 10) j)
    (fun e μ => e = (105, 0) ∧ (∀ i, i ≠ 156 → i ≠ 157 → i ≠ 158 → μ.1 i = m.1 i) ∧ μ.2 = m.2 ∧ μ.1 156 0 = nI (cW (bV m 10)) ∧ ∀ j, j < cW (bV m 10) → μ.1 157 j = wA (bV m 10) j ∧ μ.1 158 j = wB (bV m 10) j)
    (fun N τ μ hR => by
      obtain ⟨k, hN, rfl, h1, h2, h3, h4⟩ := hR
      unfold fX0_sit_s15
      rw [rc17_1, rc17_2, rc17_3, rc17_4, rc156_1, rc156_2, h3]
      by_cases hi : N = 0
      · rw [if_pos ((n_le (by omega) (by omega)).mpr (by omega))]
        exact ⟨_, _, rfl, Or.inr ⟨show ¬ 105 = 15 by decide, rfl, h1, h2, h3, fun j hj => h4 j (by omega)⟩⟩
      · rw [if_neg (fun z => by rw [n_le (by omega) (by omega)] at z; omega)]
        have eb : ∀ l : o_Mem, (∀ i, i ≠ 156 → i ≠ 157 → i ≠ 158 → l.1 i = m.1 i) → bV l 10 = fun j q => if j < 146 then bV m 10 j q else bV l 10 j q := fun l hl => by
          funext j q
          by_cases hj : j < 146
          · rw [if_pos hj]; show l.1 (10 + j) q = m.1 (10 + j) q; rw [hl _ (by omega) (by omega) (by omega)]
          · rw [if_neg hj]
        have hj : ∀ l : o_Mem, (∀ i, i ≠ 156 → i ≠ 157 → i ≠ 158 → l.1 i = m.1 i) → (∀ j, j < 20 → bV l 10 j = bV m 10 j) ∧ wfV (bV l 10) := fun l hl => by
          have e : ∀ j, j < 20 → bV l 10 j = bV m 10 j := fun j hj => by funext q; show l.1 (10 + j) q = m.1 (10 + j) q; rw [hl _ (by omega) (by omega) (by omega)]
          exact ⟨e, wfV_cap (fun j k hj _ => by rw [e j (by omega)]) hw⟩
        have fc : ∀ (l : o_Mem), (∀ j, j < 20 → bV l 10 j = bV m 10 j) → ∀ f t w x, fstFit (bV l 10) f t w x = fstFit (bV m 10) f t w x ∧ lstL (bV l 10) f t w x = lstL (bV m 10) f t w x ∧ ∀ o, wtB (bV l 10) o = wtB (bV m 10) o := fun l hl f t w x => by
          have e0 := hl 0 (by omega)
          have e4 := hl 4 (by omega)
          have hL : cL (bV l 10) = cL (bV m 10) := by unfold cL; rw [e0]
          have hf : (fun q => fitB (bV l 10) q f t w x) = fun q => fitB (bV m 10) q f t w x := by funext q; unfold fitB fitP; rw [e4]
          refine ⟨by unfold fstFit; rw [hL, hf], by unfold lstL; rw [hL, hf], fun o => ?_⟩
          unfold wtB stkBy
          rw [e4, hl 1 (by omega)]
        obtain ⟨g1, w1⟩ := hj μ h1
        have g8 : μ.1 18 k = bV m 10 8 k := congrFun (g1 8 (by omega)) k
        have g9 : μ.1 19 k = bV m 10 9 k := congrFun (g1 9 (by omega)) k
        have g10 : μ.1 20 k = bV m 10 10 k := congrFun (g1 10 (by omega)) k
        have g11 : μ.1 21 k = bV m 10 11 k := congrFun (g1 11 (by omega)) k
        simp (disch := omega) only [nI_toInt, nI_clamp, p_ck]
        rw [e8_firstFit k10 _ _ _ _ μ w1.1, p_bd, e8_worthBy w1 (fun l hl => fstFit_lt hl), p_bd, p_seq, g8, g9, g10, g11, (fc μ g1 _ _ _ _).1, (fc μ g1 0 0 0 0).2.2]
        generalize hμ2 : o_wI μ 157 k (wtB (bV m 10) (fstFit (bV m 10) (bV m 10 8 k) (bV m 10 9 k) (bV m 10 10 k) (bV m 10 11 k))) = μ2
        have y1 : ∀ i, i ≠ 156 → i ≠ 157 → i ≠ 158 → μ2.1 i = m.1 i := fun i i1 i2 i3 => by rw [← hμ2, p_wI_o i2]; exact h1 i i1 i2 i3
        obtain ⟨g2, w2⟩ := hj μ2 y1
        have g8 : μ2.1 18 k = bV m 10 8 k := congrFun (g2 8 (by omega)) k
        have g9 : μ2.1 19 k = bV m 10 9 k := congrFun (g2 9 (by omega)) k
        have g10 : μ2.1 20 k = bV m 10 10 k := congrFun (g2 10 (by omega)) k
        have g11 : μ2.1 21 k = bV m 10 11 k := congrFun (g2 11 (by omega)) k
        rw [e8_lastFit k10 _ _ _ _ μ2 w2.1, p_bd, e8_worthBy w2 (fun l hl => lstL_lt hl), p_bd, p_seq, g8, g9, g10, g11, (fc μ2 g2 _ _ _ _).2.1, (fc μ2 g2 0 0 0 0).2.2, aR_1]
        refine ⟨_, _, rfl, Or.inl ⟨rfl, N - 1, by omega, k + 1, by omega, rfl, fun i i1 i2 i3 => by rw [p_wI_o i3]; exact y1 i i1 i2 i3, ?_, ?_, fun j hj => ?_⟩⟩
        · rw [p_wI2, ← hμ2]; exact h2
        · rw [p_wI_o (by omega), ← hμ2, p_wI_o (by omega)]; exact h3
        · rw [p_wI_o (show 157 ≠ 158 by omega), p_wI1, ← hμ2, p_wI1, p_wI_o (show 158 ≠ 157 by omega)]
          by_cases e : j = k
          · rw [e, if_pos ⟨rfl, rfl⟩, if_pos ⟨rfl, rfl⟩]
            exact ⟨rfl, rfl⟩
          · rw [if_neg (fun z => e z.2), if_neg (fun z => e z.2)]
            exact h4 j (by omega))
    o_fuel (cW (bV m 10)) 0 (o_wI m 156 0 (nI (cW (bV m 10)))) (fu (by omega)) ⟨0, by omega, rfl, fun i i1 i2 i3 => by rw [p_wI_o i1], rfl, by rw [p_wI1, if_pos ⟨rfl, rfl⟩], fun j hj => by omega⟩
  rw [q1, p_bd, if_pos rfl]
  exact ⟨_, rfl, F1, F2, F3, F4⟩
end st
