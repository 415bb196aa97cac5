/-! ===== what is WANTED next in the TEXT ===== -/
section iw
variable {T : Nat → Int32} {n : Nat} {m1 m2 : o_Mem}
/-- the reference looks a word up -/
theorem iw_word (h : txR T n m1 m2) {p L : Nat} (hL : p + L ≤ n) (hs : ∀ k, p ≤ k → k < p + L → isSm (T k)) (h12 : m2.1 0 12 = 2) (h13 : m2.1 0 13 = nI p) (h14 : m2.1 0 14 = nI (p + L)) : fX12_inWords rfM 0 m2 = some (ixN kw1 (wd T p L) 0, m2) := by
  have h9 := h.1
  have one : ∀ i, i < 27 → fX12_inWords_s14 rfM 0 (nI i, nI (stL1.getD i 0)) m2 = if kw1.getD i [] = wd T p L then some ((120, (nI i, 0)), m2) else some ((14, (nI (i + 1), nI (stL1.getD (i + 1) 142))), m2) := fun i hi => by
    obtain ⟨t1, t2, t3, t4, -⟩ := tb1s i hi
    have hw := tb1 i hi
    generalize hk : kw1.getD i [] = w at *
    generalize hst : stL1.getD i 0 = st at *
    obtain ⟨e1, l1, q1, rfl, rfl⟩ := lp_one (h := 25) (s := fX12_inWords_s25 rfM 0 (nI i) (nI st))
      (fun N τ μ => μ = m2 ∧ ∃ j, j + N = w.length ∧ τ = nI (st + j))
      (fun e μ => m2 = μ ∧ e = (42, nI (st + w.length)))
      (fun N τ μ hR => by
        obtain ⟨rfl, j, hN, rfl⟩ := hR
        unfold fX12_inWords_s25
        rw [ol_1]
        simp (disch := omega) only [nI_toInt, nI_clamp, p_ck]
        by_cases hj : j = w.length
        · rw [hj, if_pos t1]
          exact ⟨_, _, rfl, Or.inr ⟨show ¬ 42 = 25 by decide, rfl, rfl⟩⟩
        · obtain ⟨a1, a2, a3⟩ := hw j (by omega)
          rw [a1, if_neg (show ¬ nI (w.getD j 0) = 32 by rw [show (32 : Int32) = nI 32 from rfl, nI_inj (by omega) (by omega)]; omega), aR_1]
          exact ⟨_, _, rfl, Or.inl ⟨rfl, N - 1, by omega, rfl, j + 1, by omega, rfl⟩⟩)
      o_fuel w.length (nI st) m2 (fu (by omega)) ⟨rfl, 0, by omega, rfl⟩
    have cmp0 : o_lp 68 (fX12_inWords_s68 rfM 0 (nI i) (nI st) (nI (st + w.length))) o_fuel (0, nI st) m2 = some ((115, (0, 0)), m2) := by
      refine p_lp (n := 1) (p_lp_exit ?_ (show ¬ 115 = 68 by decide)) (by omega)
      unfold fX12_inWords_s68
      rw [if_pos (rfl : ((0 : Int32), nI st).1 = 0)]
      split <;> rfl
    have cmp1 : w.length = L → ∃ r, o_lp 68 (fX12_inWords_s68 rfM 0 (nI i) (nI st) (nI (st + w.length))) o_fuel (1, nI st) m2 = some ((115, (r, 0)), m2) ∧ ((r = 1 ∧ ∀ j, j < L → (T (p + j)).toNatClampNeg = w.getD j 0) ∨ (r = 0 ∧ ¬ ∀ j, j < L → (T (p + j)).toNatClampNeg = w.getD j 0)) := fun hwl => by
      obtain ⟨e2, l2, q2, rfl, r, rfl, hr⟩ := lp_one (h := 68) (s := fX12_inWords_s68 rfM 0 (nI i) (nI st) (nI (st + w.length)))
        (fun N τ μ => μ = m2 ∧ ∃ j, j + N = w.length ∧ τ.2 = nI (st + j) ∧ ((τ.1 = 1 ∧ ∀ j', j' < j → (T (p + j')).toNatClampNeg = w.getD j' 0) ∨ (τ.1 = 0 ∧ ¬ ∀ j, j < L → (T (p + j)).toNatClampNeg = w.getD j 0)))
        (fun e μ => m2 = μ ∧ ∃ r, e = (115, (r, 0)) ∧ ((r = 1 ∧ ∀ j, j < L → (T (p + j)).toNatClampNeg = w.getD j 0) ∨ (r = 0 ∧ ¬ ∀ j, j < L → (T (p + j)).toNatClampNeg = w.getD j 0)))
        (fun N τ μ hR => by
          obtain ⟨rfl, j, hN, ht, hj⟩ := hR
          obtain ⟨t1', t2'⟩ := τ
          have ht : t2' = nI (st + j) := ht
          rw [ht]
          have hj : (t1' = 1 ∧ ∀ j', j' < j → (T (p + j')).toNatClampNeg = w.getD j' 0) ∨ (t1' = 0 ∧ ¬ ∀ j, j < L → (T (p + j)).toNatClampNeg = w.getD j 0) := hj
          unfold fX12_inWords_s68
          by_cases hi : N = 0
          · rw [if_pos (show nI (st + w.length) ≤ nI (st + j) by rw [n_le (by omega) (by omega)]; omega)]
            refine ⟨_, _, rfl, Or.inr ⟨show ¬ 115 = 68 by decide, rfl, t1', rfl, ?_⟩⟩
            rcases hj with ⟨a, b⟩ | hj
            · exact Or.inl ⟨a, fun j' hj' => b j' (by omega)⟩
            · exact Or.inr hj
          · rw [if_neg (show ¬ nI (st + w.length) ≤ nI (st + j) from fun z => by rw [n_le (by omega) (by omega)] at z; omega)]
            rcases hj with ⟨rfl, b⟩ | ⟨rfl, b⟩
            · rw [if_neg (show ¬ (1 : Int32) = 0 by decide), ol_1, h13]
              obtain ⟨a1, a2, a3⟩ := hw j (by omega)
              obtain ⟨c1, c2, c3⟩ := sm_nI (hs (p + j) (by omega) (by omega))
              have hby : byV T n (p + j) = nI (T (p + j)).toNatClampNeg := by
                have hsm : 97 ≤ (T (p + j)).toInt ∧ (T (p + j)).toInt ≤ 122 := hs (p + j) (by omega) (by omega)
                unfold byV
                rw [if_pos (by omega), u8_id (by omega)]
                exact c1
              rw [show nI p + nI (st + j) - nI st = nI (p + j) by rw [nI_add', nI_sub2 (by omega)]; congr 1; omega, e12_byte h (p + j) (by omega), p_bd, hby]
              simp (disch := omega) only [nI_toInt, nI_clamp, p_ck, a1, aR_1]
              by_cases he : (T (p + j)).toNatClampNeg = w.getD j 0
              · rw [if_pos (show nI (w.getD j 0) = nI (T (p + j)).toNatClampNeg by rw [he])]
                refine ⟨_, _, rfl, Or.inl ⟨rfl, N - 1, by omega, rfl, j + 1, by omega, rfl, Or.inl ⟨rfl, fun j' hj' => ?_⟩⟩⟩
                by_cases e : j' = j
                · rw [e]; exact he
                · exact b j' (by omega)
              · rw [if_neg (show ¬ nI (w.getD j 0) = nI (T (p + j)).toNatClampNeg by rw [nI_inj (by omega) (by omega)]; exact fun z => he z.symm)]
                exact ⟨_, _, rfl, Or.inl ⟨rfl, N - 1, by omega, rfl, j + 1, by omega, rfl, Or.inr ⟨rfl, fun z => he (z j (by omega))⟩⟩⟩
            · rw [if_pos (rfl : (0 : Int32) = 0)]
              exact ⟨_, _, rfl, Or.inr ⟨show ¬ 115 = 68 by decide, rfl, 0, rfl, Or.inr ⟨rfl, b⟩⟩⟩)
        o_fuel w.length (1, nI st) m2 (fu (by omega)) ⟨rfl, 0, by omega, rfl, Or.inl ⟨rfl, fun j' hj' => by omega⟩⟩
      exact ⟨r, q2, hr⟩
    have hwd : w = wd T p L ↔ w.length = L ∧ ∀ j, j < L → (T (p + j)).toNatClampNeg = w.getD j 0 := by
      constructor
      · intro z
        have hl : w.length = L := by rw [z, wd_len]
        refine ⟨hl, fun j hj => ?_⟩
        have := (wd_eq T w p).mp (by rw [hl]; exact z.symm)
        exact this j (by omega)
      · intro z
        have := (wd_eq T w p).mpr (fun j hj => z.2 j (by omega))
        rw [z.1] at this
        exact this.symm
    unfold fX12_inWords_s14 fX12_inWords_j115
    rw [ol_1, if_neg (show ¬ nI 142 ≤ nI st from fun z => by rw [n_le (by omega) (by omega)] at z; omega)]
    show o_bd (o_lp 25 (fX12_inWords_s25 rfM 0 (nI i) (nI st)) o_fuel (nI st) m2) _ = _
    rw [q1, p_bd, if_pos rfl]
    show (if nI (st + w.length) - nI st = m2.1 0 14 - m2.1 0 13 then _ else _) = _
    rw [h14, h13, nI_sub2 (by omega), nI_sub2 (by omega), show st + w.length - st = w.length by omega, show p + L - p = L by omega, t2, aR_1, aR_1]
    by_cases hl : w.length = L
    · rw [if_pos (show nI w.length = nI L by rw [hl])]
      obtain ⟨r, r1, r2⟩ := cmp1 hl
      show o_bd (o_lp 68 (fX12_inWords_s68 rfM 0 (nI i) (nI st) (nI (st + w.length))) o_fuel (1, nI st) m2) _ = _
      rw [r1, p_bd, if_pos rfl]
      rcases r2 with ⟨rfl, r2⟩ | ⟨rfl, r2⟩
      · rw [if_pos (hwd.mpr ⟨hl, r2⟩)]
        rfl
      · rw [if_neg (fun z => r2 (hwd.mp z).2)]
        rfl
    · rw [if_neg (show ¬ nI w.length = nI L by rw [nI_inj (by omega) (by omega)]; exact hl), if_neg (fun z => hl (hwd.mp z).1)]
      show o_bd (o_lp 68 (fX12_inWords_s68 rfM 0 (nI i) (nI st) (nI (st + w.length))) o_fuel (0, nI st) m2) _ = _
      rw [cmp0, p_bd, if_pos rfl]
      rfl
  -- all of them
  have stq : ∀ i, i < 27 → stL1.getD i 142 = stL1.getD i 0 := by decide +kernel
  have ixs : ∀ i, i < 27 → ixN kw1 (kw1.getD i []) 0 = nI i := fun i hi => (tb1s i hi).2.2.2.2
  obtain ⟨e1, l1, q1, rfl, hE⟩ := lp_one (h := 14) (s := fX12_inWords_s14 rfM 0)
    (fun N τ μ => μ = m2 ∧ ∃ i, i + N = 27 ∧ τ = (nI i, nI (stL1.getD i 142)) ∧ ∀ j, j < i → ¬ kw1.getD j [] = wd T p L)
    (fun e μ => m2 = μ ∧ ((∃ i, i < 27 ∧ e = (120, (nI i, 0)) ∧ kw1.getD i [] = wd T p L) ∨ (e = (133, (0, 0)) ∧ ∀ j, j < 27 → ¬ kw1.getD j [] = wd T p L)))
    (fun N τ μ hR => by
      obtain ⟨rfl, i, hN, rfl, hj⟩ := hR
      by_cases hi : N = 0
      · refine ⟨(133, (0, 0)), μ, ?_, Or.inr ⟨show ¬ 133 = 14 by decide, rfl, Or.inr ⟨rfl, fun j h1 => hj j (by omega)⟩⟩⟩
        rw [show i = 27 by omega]
        unfold fX12_inWords_s14
        rw [ol_1, if_pos (show nI 142 ≤ nI (stL1.getD 27 142) by decide)]
      · rw [stq i (by omega), one i (by omega)]
        by_cases he : kw1.getD i [] = wd T p L
        · rw [if_pos he]
          exact ⟨_, _, rfl, Or.inr ⟨show ¬ 120 = 14 by decide, rfl, Or.inl ⟨i, by omega, rfl, he⟩⟩⟩
        · rw [if_neg he]
          refine ⟨_, _, rfl, Or.inl ⟨rfl, N - 1, by omega, rfl, i + 1, by omega, rfl, fun j h1 => ?_⟩⟩
          by_cases e : j = i
          · rw [e]; exact he
          · exact hj j (by omega))
    o_fuel 27 (0, 1) m2 (fu (by omega)) ⟨rfl, 0, by omega, rfl, fun j h1 => by omega⟩
  unfold fX12_inWords
  rw [h12, if_pos rfl, q1, p_bd]
  rcases hE with ⟨i, hi, rfl, he⟩ | ⟨rfl, hj⟩
  · rw [if_pos rfl, ← he, ixs i hi]
  · rw [if_neg (show ¬ 133 = 120 by decide), if_pos rfl, ixN_no]
    intro hmem
    obtain ⟨c, a1, a2, -, a4⟩ := kw_ix _ (kw_sub _ hmem)
    have hpl := pm_lt c a1
    have hall : ∀ c, c < 27 → kw1.getD (pmL.getD c 0) [] = kw0.getD c [] := by decide +kernel
    exact hj _ hpl (by rw [hall c a1, a2])
/-- the word that is next, in both -/
theorem iw_tok (h : txR T n m1 m2) (ht : tok T n m1 m2) : ∃ y, fX12_inWords rfM 0 m2 = some (y, m2) ∧ kR (m1.1 137 8) y := by
  obtain ⟨p, q, hpq, hqn, h6, h13, hk⟩ := ht
  have no : ¬ m2.1 0 12 = 2 → m1.1 137 8 = -1 → ∃ y, fX12_inWords rfM 0 m2 = some (y, m2) ∧ kR (m1.1 137 8) y := fun h1 h2 => by
    refine ⟨-1, ?_, Or.inr ⟨h2, rfl⟩⟩
    unfold fX12_inWords
    rw [if_neg h1]
  rcases hk with ⟨-, k2, k3⟩ | ⟨-, k2, k3, -, k5, k6, k7⟩ | ⟨-, k2, k3, -⟩ | ⟨-, k2, k3, -⟩ | ⟨-, k2, k3⟩
  · exact no (by rw [k2]; decide) k3
  · have := iw_word h (p := p) (L := q - p) (by omega) (fun k a b => k6 k a (by omega)) k2 h13 (by rw [show p + (q - p) = q by omega]; exact k5)
    refine ⟨_, this, ?_⟩
    rcases k7 with ⟨-, -, e⟩ | ⟨e1, -, e2⟩
    · rw [e]; exact kR_ix _
    · have hno : ¬ wd T p (q - p) ∈ kw0 := fun z => by
        have := (kw_len _ z).2.1
        rw [wd_len] at this
        omega
      rw [e2, ixN_no _ _ _ (fun z => hno (kw_sub _ z))]
      exact Or.inr ⟨rfl, rfl⟩
  · exact no (by rw [k2]; decide) k3
  · exact no (by rw [k2]; decide) k3
  · exact no (by rw [k2]; decide) k3
end iw
