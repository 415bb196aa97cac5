/-! ===== game, gameFirst ===== -/
section gm
variable {μC μM : o_Mem}
/-- the reference plays -/
theorem e12_plays {g : Nat → Nat → Int32} {m : o_Mem} (hw : wfV g) (hr : vR g (m.1 1)) {t : Nat} (ht1 : 1 ≤ t) (ht3 : t ≤ 3) : ∃ m', fX12_plays rfM 0 (nI t) m = some (iN (bst (cW g) (vA g) (vB g) t 0 0), m') ∧ frG m m' ∧ ((cW g = 0 ∧ m'.1 0 31 = -1) ∨ ∃ x, scn 0 (Nat.testBit 0) (fun i => pay (vA g) (vB g) 0 i + bst (cW g) (vA g) (vB g) (t - 1) (0 + 1) (0 ||| 2 ^ i)) (cW g) = some x ∧ m'.1 0 31 = nI x.2) := by
  have bW := hw.1.2.2.2.2.1.2
  have e4 : m.1 1 4 = nI (cW g) := hr.1.2.2.2.2.1.trans hw.1.2.2.2.2.1.1
  obtain ⟨N, hN⟩ : ∃ N, cW g = N := ⟨_, rfl⟩
  obtain ⟨T, hT⟩ : ∃ T, T = min t N := ⟨_, rfl⟩
  have hTN : T ≤ N := by rw [hT]; exact Nat.min_le_right _ _
  have hTt : T ≤ t := by rw [hT]; exact Nat.min_le_left _ _
  have hmin : (if nI t > m.1 1 4 then m.1 1 4 else nI t) = nI T := by
    rw [e4, hN]
    by_cases h : N < t
    · rw [if_pos (show nI t > nI N from (n_lt (by omega) (by omega)).mpr h), hT, Nat.min_eq_right (by omega)]
    · rw [if_neg (fun z => h ((n_lt (by omega) (by omega)).mp z)), hT, Nat.min_eq_left (by omega)]
  have hbst : ∀ a, fre a N ≤ T ∨ T = t → bst N (vA g) (vB g) t 0 a = bst N (vA g) (vB g) T 0 a := fun a h => by
    rcases h with h | h
    · have := bst_more (n := N) (A := vA g) (B := vB g) 0 a T h (t - T)
      rw [show T + (t - T) = t by omega] at this
      exact this
    · rw [h]
  unfold fX12_plays
  rw [qm_0, qm_28, qm_29, qm_30, hmin, p_seq]
  by_cases h0 : N = 0
  · have hT0 : T = 0 := by omega
    rw [if_pos (show nI T = 0 by rw [hT0]; rfl)]
    refine ⟨o_wI m 0 31 (-1), ?_, ⟨fun i i0 _ _ _ => p_wI_o i0, fun k hk => by rw [p_wI1, if_neg (fun z => hk z.2)], rfl⟩, Or.inl ⟨by omega, by rw [p_wI1, if_pos ⟨rfl, rfl⟩]⟩⟩
    rw [hN, hbst 0 (Or.inl (by rw [fre_z]; omega)), hT0]
    rfl
  · have hT1 : 1 ≤ T := by rw [hT]; exact Nat.le_min.mpr ⟨ht1, by omega⟩
    rw [if_neg (show ¬ nI T = 0 by rw [show (0 : Int32) = nI 0 from rfl, nI_inj (by omega) (by omega)]; omega)]
    simp only [p_seq]
    generalize hP : o_wI (o_wI (o_wI (o_wI m 0 31 (-1)) 13 0 (-1)) 14 0 1000000) 15 0 0 = P
    have FP : frG m P := ⟨fun q q0 q1 q2 q3 => by rw [← hP, p_wI_o q3, p_wI_o q2, p_wI_o q1, p_wI_o q0], fun k hk => by rw [← hP, p_wI_o (by omega), p_wI_o (by omega), p_wI_o (by omega), p_wI1, if_neg (fun z => hk z.2)], by rw [← hP]; rfl⟩
    have P13 : P.1 13 0 = -1 := by rw [← hP, p_wI_o (by omega), p_wI_o (by omega), p_wI1, if_pos ⟨rfl, rfl⟩]
    have P14 : P.1 14 0 = 1000000 := by rw [← hP, p_wI_o (by omega), p_wI1, if_pos ⟨rfl, rfl⟩]
    have P15 : P.1 15 0 = iN 0 := by rw [← hP, p_wI1, if_pos ⟨rfl, rfl⟩]; rfl
    obtain ⟨C, Q, c1, c2, FQ, -, c4, c5, c6, -, c8⟩ := lev hw hr (l0 := m) (T := T) (by omega) (by omega) (T - 1) 0 0 0 P (by omega) (by omega) FP (fun i hi => by
      rw [show Nat.testBit 0 i = false by simp]
      exact ⟨fun z => absurd z (by decide), fun ⟨j, j1, _⟩ => absurd j1 (by omega)⟩) P13 P14 P15 (by omega)
    rw [hN] at c1 c5 c6 c8
    -- the last two steps
    have hc : nI N - 1 + 1 = nI N := by rw [Int32.sub_add_cancel]
    have st1 : fX12_plays_s47 rfM 0 (nI T) (nI 0) Q = some ((47, -1), o_wI Q 13 0 (nI N)) := by
      have eR13 : (o_wI Q 13 0 (nI N)).1 13 0 = nI N := by rw [p_wI1, if_pos ⟨rfl, rfl⟩]
      have eR4 : (o_wI Q 13 0 (nI N)).1 1 4 = nI N := by rw [p_wI_o (by omega), FQ.1 1 (by omega) (by omega) (by omega) (by omega), e4, hN]
      unfold fX12_plays_s47
      rw [qm_28, qm_0, qm_29, if_neg (show ¬ nI 0 < 0 by decide)]
      simp (disch := omega) only [nI_toInt, nI_clamp, p_ck, c5, hc, p_seq, eR13, eR4]
      rw [if_pos trivial, if_pos (show nI 0 + -1 < 0 by decide)]
      rfl
    have st2 : fX12_plays_s47 rfM 0 (nI T) (-1) (o_wI Q 13 0 (nI N)) = some ((204, 0), o_wI Q 13 0 (nI N)) := by
      unfold fX12_plays_s47
      rw [if_pos (show (-1 : Int32) < 0 by decide)]
    have hper : perS (T - 1) ≤ 170 := by
      rcases (show T - 1 = 0 ∨ T - 1 = 1 ∨ T - 1 = 2 by omega) with h | h | h <;> rw [h] <;> decide
    have hC : C ≤ 12 * 170 := Nat.le_trans c1 (Nat.mul_le_mul (by omega) hper)
    have hlp : o_lp 47 (fX12_plays_s47 rfM 0 (nI T)) o_fuel 0 P = some ((204, 0), o_wI Q 13 0 (nI N)) := p_lp (n := C + 2) (by
      have := c2 2
      rw [show (0 : Int32) = nI 0 from rfl, this, show (2 : Nat) = 1 + 1 from rfl, p_lp_next st1]
      exact p_lp_exit st2 (by decide)) (by omega)
    rw [hlp, p_bd, if_pos rfl, p_wI_o (by omega), c6]
    -- there is a best one
    cases hsc : scn 0 (Nat.testBit 0) (fun i => pay (vA g) (vB g) 0 i + bst N (vA g) (vB g) (T - 1) (0 + 1) (0 ||| 2 ^ i)) N with
    | none =>
      have := scn_none _ hsc 0 (by omega)
      exact absurd this (by simp)
    | some x =>
      have hsame : scn 0 (Nat.testBit 0) (fun i => pay (vA g) (vB g) 0 i + bst N (vA g) (vB g) (t - 1) (0 + 1) (0 ||| 2 ^ i)) N = some x := by
        rw [← hsc]
        refine scn_c N (fun i hi hf => ?_)
        show pay (vA g) (vB g) 0 i + bst N (vA g) (vB g) (t - 1) (0 + 1) (0 ||| 2 ^ i) = pay (vA g) (vB g) 0 i + bst N (vA g) (vB g) (T - 1) (0 + 1) (0 ||| 2 ^ i)
        by_cases hTT : T = t
        · rw [hTT]
        · have hTN2 : T = N := by
            rw [hT]
            by_cases h : t ≤ N
            · exact absurd (by rw [hT, Nat.min_eq_left h]) hTT
            · rw [Nat.min_eq_right (by omega)]
          have hfr := fre_set hf N
          rw [if_pos hi, fre_z] at hfr
          have := bst_more (n := N) (A := vA g) (B := vB g) (0 + 1) (0 ||| 2 ^ i) (T - 1) (by omega) (t - T)
          rw [show T - 1 + (t - T) = t - 1 by omega] at this
          rw [this]
      rw [hsc] at c8
      refine ⟨o_wI Q 13 0 (nI N), ?_, ⟨fun q q0 q1 q2 q3 => by rw [p_wI_o q1]; exact FQ.1 q q0 q1 q2 q3, fun k hk => by rw [p_wI_o (by omega)]; exact FQ.2.1 k hk, FQ.2.2⟩, Or.inr ⟨x, by rw [hN]; exact hsame, ?_⟩⟩
      · have hval : bst N (vA g) (vB g) t 0 0 = x.1 := by
          obtain ⟨t', rfl⟩ : ∃ t', t = t' + 1 := ⟨t - 1, by omega⟩
          show valS (scn 0 (Nat.testBit 0) (fun i => pay (vA g) (vB g) 0 i + bst N (vA g) (vB g) t' (0 + 1) (0 ||| 2 ^ i)) N) = x.1
          rw [show t' = t' + 1 - 1 by omega, hsame]
          rfl
        rw [hN, hval]
        show some (iN (0 + x.1), _) = some (iN x.1, _)
        rw [Int.zero_add]
      · rw [p_wI_o (by omega)]
        exact c8 rfl
theorem e12_areTurns (x : Int32) (m : o_Mem) : fX12_areTurns rfM x m = some (bI (1 ≤ x.toInt ∧ x.toInt ≤ 3), m) := by
  unfold fX12_areTurns
  simp only [i32_lt, c32_1, c32_3]
  by_cases h1 : x.toInt < 1
  · rw [if_pos h1, bI_f (by omega)]
  · rw [if_neg h1]
    by_cases h2 : 3 < x.toInt
    · rw [if_pos h2, bI_f (by omega)]
    · rw [if_neg h2, bI_t (by omega)]
theorem Inv_gm {m1 m2 : o_Mem} (h : Inv μC μM) (F1 : ∀ i, i ≠ 156 → i ≠ 157 → i ≠ 158 → m1.1 i = μC.1 i) (F2 : m1.2 = μC.2) (G : frG μM m2) : Inv m1 m2 := Inv_scr h (fun i hi => F1 i (by omega) (by omega) (by omega)) (fun i hi => by rw [F2]) (fun k hk => G.2.1 k (by omega)) (fun i h1 h2 => G.1 i (by omega) (by omega) (by omega) (by omega)) (fun i hi => by rw [G.2.2])
theorem pu_game (h : Inv μC μM) (x : Int32) : o_Eq2 (fX11_game rfC 0 x μC) (fX12_game rfM 0 x μM) Inv := by
  obtain ⟨hw, hr⟩ := Inv_v h
  have bW := hw.1.2.2.2.2.1.2
  unfold fX11_game fX12_game
  simp only [rc0_4, rc0_18, e11_within, e12_areTurns, p_bd, bI_if, i64_of, c64_1, c64_3, e11_refuses, e12_refuse, e11_gives, e12_gives]
  by_cases hx : 1 ≤ x.toInt ∧ x.toInt ≤ 3
  · rw [if_pos hx, if_pos hx]
    obtain ⟨t, ht, ht2, rfl⟩ := rg_nI (x := x) (n := 4) (by omega)
    rw [nI_toInt ht2] at hx
    obtain ⟨m1, q1, F1, F2, F3, F4⟩ := e0_sit hw
    obtain ⟨m2, q2, G, -⟩ := e12_plays hw hr (t := t) (by omega) (by omega)
    have hb := cl_best (μ := m1) (n := cW (bV μC 10)) (A := vA (bV μC 10)) (B := vB (bV μC 10)) F3 (fun i hi => by rw [(F4 i hi).1]; exact vA_e hw i) (fun i hi => by rw [(F4 i hi).2]; exact vB_e hw i) (fun i _ => vA_ok hw i) (fun i _ => vB_ok hw i) bW t 4 0 t 0 (by omega) (by omega) (by omega) (by omega)
    have hb' : fX0_bestN rfC 5 156 0 (nI t) 0 m1 = some (iN (bst (cW (bV μC 10)) (vA (bV μC 10)) (vB (bV μC 10)) t 0 0), m1) := hb
    unfold fX0_outcome fX0_best
    rw [q1, p_bd, hb', q2]
    exact eq2_st (Inv_gm h F1 F2 G) _ _ rfl rfl
  · rw [if_neg hx, if_neg hx]; exact eq2_st h _ _ rfl rfl
theorem pu_gameFirst (h : Inv μC μM) (x : Int32) : o_Eq2 (fX11_gameFirst rfC 0 x μC) (fX12_gameFirst rfM 0 x μM) Inv := by
  obtain ⟨hw, hr⟩ := Inv_v h
  have bW := hw.1.2.2.2.2.1.2
  unfold fX11_gameFirst fX12_gameFirst
  simp only [rc0_4, rc0_18, e11_within, e12_areTurns, p_bd, bI_if, i64_of, c64_1, c64_3, e11_refuses, e12_refuse, e11_any', e12_any']
  by_cases hx : 1 ≤ x.toInt ∧ x.toInt ≤ 3
  · rw [if_pos hx, if_pos hx]
    obtain ⟨t, ht, ht2, rfl⟩ := rg_nI (x := x) (n := 4) (by omega)
    rw [nI_toInt ht2] at hx
    obtain ⟨m1, q1, F1, F2, F3, F4⟩ := e0_sit hw
    obtain ⟨m2, q2, G, hG⟩ := e12_plays hw hr (t := t) (by omega) (by omega)
    have eA : ∀ i, i < cW (bV μC 10) → m1.1 157 i = iN (vA (bV μC 10) i) := fun i hi => by rw [(F4 i hi).1]; exact vA_e hw i
    have eB : ∀ i, i < cW (bV μC 10) → m1.1 158 i = iN (vB (bV μC 10) i) := fun i hi => by rw [(F4 i hi).2]; exact vB_e hw i
    generalize hN : cW (bV μC 10) = N at *
    have hcb := cl_best (μ := m1) (n := N) (A := vA (bV μC 10)) (B := vB (bV μC 10)) F3 eA eB (fun i _ => vA_ok hw i) (fun i _ => vB_ok hw i) bW
    have hb' : fX0_bestN rfC 5 156 0 (nI t) 0 m1 = some (iN (bst N (vA (bV μC 10)) (vB (bV μC 10)) t 0 0), m1) := hcb t 4 0 t 0 (by omega) (by omega) (by omega) (by omega)
    obtain ⟨v, hv⟩ : ∃ v : Nat → Int, v = fun i => pay (vA (bV μC 10)) (vB (bV μC 10)) 0 i + bst N (vA (bV μC 10)) (vB (bV μC 10)) (t - 1) (0 + 1) (0 ||| 2 ^ i) := ⟨_, rfl⟩
    have hbv : bst N (vA (bV μC 10)) (vB (bV μC 10)) t 0 0 = valS (scn 0 (Nat.testBit 0) v N) := by
      obtain ⟨t', rfl⟩ : ∃ t', t = t' + 1 := ⟨t - 1, by omega⟩
      rw [hv]
      rfl
    have hvb : ∀ i, i < N → -1000 ≤ v i ∧ v i ≤ 1000 := fun i hi => by
      have p := pay_b (n := N) (A := vA (bV μC 10)) (B := vB (bV μC 10)) (fun i _ => vA_ok hw i) (fun i _ => vB_ok hw i) 0 hi
      have q := bst_b (n := N) (A := vA (bV μC 10)) (B := vB (bV μC 10)) (fun i _ => vA_ok hw i) (fun i _ => vB_ok hw i) (t - 1) (0 + 1) (0 ||| 2 ^ i)
      rw [hv]
      show -1000 ≤ pay (vA (bV μC 10)) (vB (bV μC 10)) 0 i + bst N (vA (bV μC 10)) (vB (bV μC 10)) (t - 1) (0 + 1) (0 ||| 2 ^ i) ∧ pay (vA (bV μC 10)) (vB (bV μC 10)) 0 i + bst N (vA (bV μC 10)) (vB (bV μC 10)) (t - 1) (0 + 1) (0 ||| 2 ^ i) ≤ 1000
      omega
    have htk : ∀ i, i < N → fX0_takenThen rfC 156 0 (nI t) 0 (nI i) m1 = some (iN (v i), m1) := fun i hi => by
      have q := bst_b (n := N) (A := vA (bV μC 10)) (B := vB (bV μC 10)) (fun i _ => vA_ok hw i) (fun i _ => vB_ok hw i) (t - 1) (0 + 1) (0 ||| 2 ^ i)
      have := cl_taken (μ := m1) (n := N) (A := vA (bV μC 10)) (B := vB (bV μC 10)) (fX0_bestN rfC 5) eA eB (fun i _ => vA_ok hw i) (fun i _ => vB_ok hw i) bW (d := 0) (T := t) (a := 0) (i := i) (by omega) hi (b := bst N (vA (bV μC 10)) (vB (bV μC 10)) (t - 1) (0 + 1) (0 ||| 2 ^ i)) (by omega) (hcb (t - 1) 4 (0 + 1) t (0 ||| 2 ^ i) (by omega) (by omega) (by omega) (w_or_lt (by omega) (by omega)))
      rw [hv]
      exact this
    have hlp : ∃ r, o_lp 8 (fX0_firstTaken_s8 rfC 156 (nI t) (iN (valS (scn 0 (Nat.testBit 0) v N)))) o_fuel 0 m1 = some (r, m1) ∧ ((N = 0 ∧ r = (36, 0)) ∨ ∃ x, scn 0 (Nat.testBit 0) v N = some x ∧ r = (28, nI x.2)) := by
      by_cases h0 : N = 0
      · refine ⟨(36, 0), p_lp (n := 1) (p_lp_exit ?_ (by decide)) (by omega), Or.inl ⟨h0, rfl⟩⟩
        unfold fX0_firstTaken_s8
        rw [F3, h0]
        rfl
      · cases hsc : scn 0 (Nat.testBit 0) v N with
        | none =>
          have := scn_none _ hsc 0 (by omega)
          exact absurd this (by simp)
        | some y =>
          obtain ⟨y1, y2, y3⟩ := scn_mem N y hsc
          obtain ⟨-, z2⟩ := scn_first N y hsc
          have hyb := hvb y.2 y1
          rw [y3] at hyb
          obtain ⟨e1, n1, r1, rfl, rfl⟩ := lp_one (h := 8) (s := fX0_firstTaken_s8 rfC 156 (nI t) (iN (valS (some y))))
            (fun M τ μ => μ = m1 ∧ ∃ i, i + M = y.2 ∧ τ = nI i)
            (fun e μ => m1 = μ ∧ e = (28, nI y.2))
            (fun M τ μ hR => by
              obtain ⟨rfl, i, hM, rfl⟩ := hR
              have hvi := hvb i (by omega)
              unfold fX0_firstTaken_s8
              rw [F3, if_neg (fun z => by rw [n_le (by omega) (by omega)] at z; omega), htk i (by omega), p_bd]
              by_cases hi : M = 0
              · have hiy : i = y.2 := by omega
                rw [hiy, if_pos (show iN (v y.2) = iN (valS (some y)) by rw [y3]; rfl)]
                exact ⟨_, _, rfl, Or.inr ⟨show ¬ 28 = 8 by decide, rfl, rfl⟩⟩
              · have hlt := z2 i (by omega) (by simp)
                rw [if_neg (show ¬ iN (v i) = iN (valS (some y)) from fun z => by
                  have := (iN_eq hvi (show -1000 ≤ valS (some y) ∧ valS (some y) ≤ 1000 from hyb)).mp z
                  have h2 : valS (some y) = y.1 := rfl
                  omega), aR_1]
                exact ⟨_, _, rfl, Or.inl ⟨rfl, M - 1, by omega, rfl, i + 1, by omega, rfl⟩⟩)
            o_fuel y.2 0 m1 (fu (by omega)) ⟨rfl, 0, by omega, rfl⟩
          exact ⟨_, r1, Or.inr ⟨y, rfl, rfl⟩⟩
    unfold fX0_firstTaken fX0_outcome fX0_best
    rw [q1, p_bd, hb', p_bd, p_bd, hbv, q2, p_bd]
    obtain ⟨r, r1, r2⟩ := hlp
    rw [r1, p_bd]
    rcases r2 with ⟨h0, rfl⟩ | ⟨y, hy, rfl⟩
    · rcases hG with ⟨-, e31⟩ | ⟨y, hy, -⟩
      · rw [if_neg (show ¬ 36 = 28 by decide), if_pos rfl, p_bd, e31]
        exact eq2_st (Inv_gm h F1 F2 G) _ _ rfl rfl
      · rw [h0] at hy
        cases hy
    · rcases hG with ⟨h0, -⟩ | ⟨z, hz, e31⟩
      · rw [h0] at hy
        cases hy
      · rw [← hv, hy] at hz
        cases hz
        rw [if_pos rfl, p_bd, e31]
        exact eq2_st (Inv_gm h F1 F2 G) _ _ rfl rfl
  · rw [if_neg hx, if_neg hx]; exact eq2_st h _ _ rfl rfl
end gm
