/-! ===== WEEKS lived, and the mean over draws ===== -/
section li
variable {μC μM : o_Mem}
/-- all but the VALLEY that is there, its WEEKS and the life -/
theorem Inv_of {m1 m2 : o_Mem} (h : Inv μC μM) (c1 : ∀ i, i < 10 ∨ 62 ≤ i → i < 139 → m1.1 i = μC.1 i) (c2 : ∀ i, i < 10 ∨ 62 ≤ i → i < 139 → m1.2 i = μC.2 i) (d0 : ∀ k, k = 2 ∨ k = 10 ∨ k = 16 ∨ k = 17 ∨ k = 38 → m2.1 0 k = μM.1 0 k) (d1 : ∀ i, 3 ≤ i → i ≤ 6 → m2.1 i = μM.1 i) (d2 : ∀ k, 626 ≤ k → k < 2504 → m2.1 1 k = μM.1 1 k) (d3 : m2.2 0 = μM.2 0 ∧ m2.2 5 = μM.2 5) (d4 : ∀ k, 16 ≤ k → k < 64 → m2.2 2 k = μM.2 2 k) (hs : slR m1 m2 10 50 0 0) (hl : iLv m1 m2) : Inv m1 m2 := by
  obtain ⟨a1, a2, a3, a4, -, a6, -⟩ := h
  refine ⟨?_, iTr_c (fun i p q => ⟨c1 i (by omega) (by omega), c2 i (by omega) (by omega)⟩) (d1 3 (by omega) (by omega)) (d1 4 (by omega) (by omega)) d3.2 a2, iTp_c (by rw [c1 137 (by omega) (by omega)]) (c1 138 (by omega) (by omega)) (d0 10 (by omega)) (d1 6 (by omega) (by omega)) a3, ?_, hs, iMk_c (by rw [c1 0 (by omega) (by omega)]) (fun i p q => ⟨c1 i (by omega) (by omega), c2 i (by omega) (by omega)⟩) (d0 38 (by omega)) d2 d4 a6, hl⟩
  · unfold iSt at a1 ⊢
    rw [c1 0 (by omega) (by omega), c2 0 (by omega) (by omega), d0 2 (by omega), d3.1]
    exact a1
  · unfold iFt at a4 ⊢
    rw [c1 137 (by omega) (by omega), d0 16 (by omega), d0 17 (by omega)]
    exact a4
/-- the VALLEY that is there, after changes that leave its NAMES and WEEKS -/
theorem slR_val {m1 m2 : o_Mem} (h : slR μC μM 10 50 0 0) (hC : ∀ i, 50 ≤ i → i < 55 → m1.1 i = μC.1 i) (hC2 : m1.2 29 = μC.2 29) (hM2 : m2.2 2 = μM.2 2) (hA : ∀ k, k = 12 ∨ 259 ≤ k → m2.1 1 k = μM.1 1 k)
    (cs : cS (bV m1 10) = cS (bV μC 10)) (ch : cH (bV m1 10) = cH (bV μC 10)) (cp : cP (bV m1 10) = cP (bV μC 10)) (hw : wfV (bV m1 10)) (hr : vR (bV m1 10) (m2.1 1)) : slR m1 m2 10 50 0 0 := by
  refine ⟨hw, by rw [mS_0]; exact hr, ?_, ?_⟩
  · have := h.2.2.1
    unfold nR at this ⊢
    rw [cs, ch, cp, show 10 + 19 = 29 from rfl, hC2, hM2]
    exact this
  · have hp := h.2.2.2
    have ep : ∀ j, j < 5 → bV m1 50 j = bV μC 50 j := fun j hj => by funext k; show m1.1 (50 + j) k = μC.1 (50 + j) k; rw [hC _ (by omega) (by omega)]
    unfold pR at hp ⊢
    rw [mS_0] at hp ⊢
    rw [ep 0 (by omega), ep 1 (by omega), ep 2 (by omega), ep 3 (by omega), ep 4 (by omega), hA 12 (by omega)]
    rcases hp with hp | ⟨q1, n, q2, q3, q4, q5, q6, q7⟩
    · exact Or.inl hp
    · refine Or.inr ⟨q1, n, q2, q3, q4, fun k hk => ?_, q6, q7⟩
      exact rowR_c cs cp (fun j hj => hA _ (by omega)) (q5 k hk)
theorem pl_cases (h : Inv μC μM) : (μC.1 50 0 = 0 ∧ μM.1 1 12 = -1) ∨ (¬ μC.1 50 0 = 0 ∧ ¬ μM.1 1 12 = -1 ∧ ∃ n, plD (bV μC 10) n (bV μC 50) (μM.1 1)) := by
  have hp := h.2.2.2.2.1.2.2.2
  rw [mS_0] at hp
  rcases hp with hp | hp
  · exact Or.inl hp
  · have h0 : ¬ bV μC 50 0 0 = 0 := by rw [hp.1]; decide
    obtain ⟨n, hn⟩ := plD_of (Or.inr hp) h0
    exact Or.inr ⟨h0, by rw [hn.2.2.1]; exact nI_nm1 (by have := hn.1; omega), n, hn⟩
theorem life5 (m : o_Mem) : ∃ B : o_Mem, (∀ f : o_Mem → Option (Int32 × o_Mem), (o_seq (o_wI m 144 0 (m.1 142 0)) fun μ3 => o_seq (o_wI μ3 144 1 (μ3.1 142 1)) fun μ4 => o_seq (o_wI μ4 144 2 (μ4.1 142 2)) fun μ5 => o_seq (o_wI μ5 144 3 (μ5.1 142 3)) fun μ6 => o_seq (o_wI μ6 144 4 (μ6.1 142 4)) f) = f B) ∧ (∀ i, i ≠ 144 → B.1 i = m.1 i) ∧ B.2 = m.2 ∧ ∀ j, j < 5 → B.1 144 j = m.1 142 j := by
  refine ⟨_, fun f => rfl, fun i hi => by rw [p_wI_o hi, p_wI_o hi, p_wI_o hi, p_wI_o hi, p_wI_o hi], rfl, fun j hj => ?_⟩
  rcases (show j = 0 ∨ j = 1 ∨ j = 2 ∨ j = 3 ∨ j = 4 by omega) with rfl | rfl | rfl | rfl | rfl <;> rfl
theorem pu_live (h : Inv μC μM) (x : Int32) : o_Eq2 (fX11_live rfC 0 x μC) (fX12_live rfM 0 x μM) Inv := by
  obtain ⟨hw, hr⟩ := Inv_v h
  unfold fX11_live fX12_live
  simp only [rc0_4, rc0_6, rc0_14, rc0_15, qm_0, e11_within, e12_isFrom, p_bd, bI_if, i64_of, c64_0, c64_9999]
  by_cases hx : 0 ≤ x.toInt ∧ x.toInt ≤ 9999
  · rw [if_pos hx, if_pos hx]
    rcases pl_cases h with ⟨h0, h12⟩ | ⟨h0, h12, n, hp⟩
    · rw [if_pos h0, if_pos h12]; exact eq2_st h _ _ rfl rfl
    · rw [if_neg h0, if_neg h12]
      obtain ⟨q, m1, m2, hq, q1, q2, hB⟩ := run_whole (by omega) k10 k17 k23 hp hw hr x
      rw [q1, q2, p_bd, p_bd]
      obtain ⟨f1, f2, f3, f4, f5, f6, ⟨hw1, hr1, c1, c2, c3⟩, l1, l2, l3, l4, m, l5, l6, l7⟩ := hB
      obtain ⟨e1, A2, r1, rfl, g1, g2, g3⟩ := lp_one (h := 43) (s := fX12_live_s43 rfM 0)
        (fun i τ μ => ∃ k, k + i = 5 ∧ τ = nI k ∧ (∀ i, i ≠ 18 → μ.1 i = m2.1 i) ∧ μ.2 = m2.2 ∧ ∀ j, j < k → μ.1 18 j = m2.1 17 j)
        (fun e μ => e = (66, 0) ∧ (∀ i, i ≠ 18 → μ.1 i = m2.1 i) ∧ μ.2 = m2.2 ∧ ∀ j, j < 5 → μ.1 18 j = m2.1 17 j)
        (fun i τ μ hR => by
          obtain ⟨k, hk, rfl, h1, h2, h3⟩ := hR
          unfold fX12_live_s43
          rw [qm_35, qm_36, show (5 : Int32) = nI 5 from rfl]
          by_cases hi : i = 0
          · rw [if_pos ((n_le (by omega) (by omega)).mpr (by omega))]
            exact ⟨_, _, rfl, Or.inr ⟨show ¬ 66 = 43 by decide, rfl, h1, h2, fun j hj => h3 j (by omega)⟩⟩
          · rw [if_neg (fun z => by rw [n_le (by omega) (by omega)] at z; omega)]
            simp (disch := omega) only [nI_toInt, nI_clamp, p_ck, p_seq, aR_1]
            refine ⟨_, _, rfl, Or.inl ⟨rfl, i - 1, by omega, k + 1, by omega, rfl, fun i hi => by rw [p_wI_o hi]; exact h1 i hi, h2, fun j hj => ?_⟩⟩
            rw [p_wI1]
            by_cases hjk : j = k
            · rw [if_pos ⟨rfl, hjk⟩, h1 17 (by omega), hjk]
            · rw [if_neg (fun z => hjk z.2)]; exact h3 j (by omega))
        o_fuel 5 0 m2 (fu (by omega)) ⟨0, by omega, rfl, fun i _ => rfl, rfl, fun j hj => by omega⟩
      rw [r1, p_bd, if_pos rfl]
      obtain ⟨B1, hB1, b1, b2, b3⟩ := life5 m1
      rw [hB1]
      simp only [p_seq, e11_gives, e12_gives, p_bd]
      generalize hB2 : o_wI A2 0 37 1 = B2
      have b4 : ∀ i, i ≠ 0 → B2.1 i = A2.1 i := fun i hi => by rw [← hB2, p_wI_o hi]
      have b5 : ∀ k, k ≠ 37 → B2.1 0 k = A2.1 0 k := fun k hk => by rw [← hB2, p_wI1, if_neg (fun z => hk z.2)]
      have b6 : B2.1 0 37 = 1 := by rw [← hB2, p_wI1, if_pos ⟨rfl, rfl⟩]
      have b7 : B2.2 = A2.2 := by rw [← hB2]; rfl
      rw [b1 142 (by omega), l2, b5 33 (by omega), g1 0 (by omega), l3]
      refine ⟨_, _, _, rfl, rfl, Inv_st 0 (Inv_of h (fun i h1 h2 => (b1 i (by omega)).trans (f1 i (by omega) (by omega) (by omega))) (fun i _ _ => by rw [b2, f2]) (fun k hk => by rw [b5 k (by omega), g1 0 (by omega)]; exact f4 k (by omega) (by omega)) (fun i h1 h2 => by rw [b4 i (by omega), g1 i (by omega)]; exact f3 i (by omega) (by omega) (by omega) (by omega)) (fun k h1 h2 => by rw [b4 1 (by omega), g1 1 (by omega)]; exact f6 k (by omega)) (by rw [b7, g2, f5]; exact ⟨rfl, rfl⟩) (fun k _ _ => by rw [b7, g2, f5]) ?_ ?_)⟩
      · have eb : ∀ j, j < 20 → bV B1 10 j = bV m1 10 j := fun j hj => by funext k; show B1.1 (10 + j) k = m1.1 (10 + j) k; rw [b1 _ (by omega)]
        obtain ⟨w1, w2, w3, w4, w5⟩ := val_c eb hw1 hr1
        refine slR_val h.2.2.2.2.1 (fun i h1 h2 => (b1 i (by omega)).trans (f1 i (by omega) (by omega) (by omega))) (by rw [b2, f2]) (by rw [b7, g2, f5]) (fun k hk => by rw [b4 1 (by omega), g1 1 (by omega)]; exact f6 k hk) (w3.trans c1) (w4.trans c2) (w5.trans c3) w1 ?_
        rw [b4 1 (by omega), g1 1 (by omega)]
        exact w2
      · refine Or.inr ⟨?_, b6, fun k hk => ?_⟩
        · rw [b3 0 (by omega), l6]; exact nI_nm1 (by omega)
        · rw [b3 k hk, b4 18 (by omega), g3 k hk]
          by_cases h0 : k = 0
          · rw [h0, l6, l7, Nat.add_zero]
          · exact l1 k (by omega) hk
  · rw [if_neg hx, if_neg hx]; exact eq2_st h _ _ rfl rfl
theorem ss_mono {g : Nat → Nat → Int32} (hc : ∀ k, k < cS g → 0 ≤ (g 2 k).toInt) : ∀ n m, n + m ≤ cS g → ssum g n ≤ ssum g (n + m)
  | n, 0, _ => Int.le_refl _
  | n, m + 1, h => by
    have h1 := ss_mono hc n m (by omega)
    have h2 := hc (n + m) (by omega)
    show ssum g n ≤ ssum g (n + m) + (g 2 (n + m)).toInt
    omega
theorem ws_nat {g : Nat → Nat → Int32} (hw : wfV g) : ∃ w : Nat, w ≤ 1079892 ∧ wsum g (cS g) = nI w := by
  obtain ⟨hc, hs⟩ := hw.2.2.2.2.2.2.2.2.2.2
  have hd := hw.2.2.1
  have key : ∀ n, n ≤ cS g → ∃ w : Nat, wsum g n = nI w ∧ (w : Int) ≤ 9 * ssum g n ∧ 0 ≤ ssum g n := fun n => by
    induction n with
    | zero => exact fun _ => ⟨0, rfl, by show (0 : Int) ≤ 9 * 0; omega, Int.le_refl _⟩
    | succ n ih =>
      intro hn
      obtain ⟨w, h1, h2, h3⟩ := ih (by omega)
      obtain ⟨a1, a2, a3⟩ := hc n (by omega)
      have hm := ss_mono (g := g) (fun k hk => (hc k hk).1) (n + 1) (cS g - (n + 1)) (by omega)
      rw [show n + 1 + (cS g - (n + 1)) = cS g by omega] at hm
      have hse : ssum g (n + 1) = ssum g n + (g 2 n).toInt := rfl
      obtain ⟨a, x1, x2, x3⟩ := rg_nI (x := g 2 n) (n := 119989) ⟨a1, by omega⟩
      obtain ⟨b, y1, y2, y3⟩ := rg_nI (x := g 1 n) (n := 10) ⟨a2, by omega⟩
      have hab : a * b ≤ a * 9 := Nat.mul_le_mul_left a (by omega)
      have hae : (g 2 n).toInt = a := by rw [x3, nI_toInt x2]
      refine ⟨w + a * b, ?_, ?_, by omega⟩
      · show wsum g n + g 2 n * g 1 n = _
        rw [h1, x3, y3, pk_mul, nI_add]
      · rw [hse, hae]
        omega
  obtain ⟨w, h1, h2, h3⟩ := key (cS g) (by omega)
  exact ⟨w, by omega, h1⟩
theorem plD_c {g g' pl pl' : Nat → Nat → Int32} {a a' : Nat → Int32} {n : Nat} (cs : cS g' = cS g) (cp : cP g' = cP g) (hp : ∀ j, j < 5 → pl' j = pl j) (hA : ∀ k, k = 12 ∨ (259 ≤ k ∧ k < 619) → a' k = a k) (h : plD g n pl a) : plD g' n pl' a' := by
  unfold plD at h ⊢
  rw [hp 0 (by omega), hp 1 (by omega), hp 2 (by omega), hp 3 (by omega), hp 4 (by omega), hA 12 (by omega)]
  obtain ⟨h1, h2, h3, h4, h5⟩ := h
  exact ⟨h1, h2, h3, fun k hk => rowR_c cs cp (fun j hj => hA _ (by omega)) (h4 k hk), h5⟩
theorem aL_3130 (n : Nat) : 3130 + nI n = nI (3130 + n) := nI_add 3130 n
/-- the reference puts its VALLEY by, and brings it back -/
theorem mn_put (x1 x2 : Int32) (μ : o_Mem) : ∃ m, o_lp 61 (fX12_mean_s61 rfM 0 x1 x2) o_fuel 0 μ = some ((90, 0), m) ∧ (∀ i, i ≠ 1 → m.1 i = μ.1 i) ∧ m.2 = μ.2 ∧ (∀ j, j < 3130 → m.1 1 j = μ.1 1 j) ∧ ∀ j, j < 259 → m.1 1 (3130 + j) = μ.1 1 j := by
  obtain ⟨e1, m, q1, rfl, g1, g2, g3, g4⟩ := lp_one (h := 61) (s := fX12_mean_s61 rfM 0 x1 x2)
    (fun i τ m => ∃ k, k + i = 259 ∧ τ = nI k ∧ (∀ i, i ≠ 1 → m.1 i = μ.1 i) ∧ m.2 = μ.2 ∧ (∀ j, j < 3130 → m.1 1 j = μ.1 1 j) ∧ ∀ j, j < k → m.1 1 (3130 + j) = μ.1 1 j)
    (fun e m => e = (90, 0) ∧ (∀ i, i ≠ 1 → m.1 i = μ.1 i) ∧ m.2 = μ.2 ∧ (∀ j, j < 3130 → m.1 1 j = μ.1 1 j) ∧ ∀ j, j < 259 → m.1 1 (3130 + j) = μ.1 1 j)
    (fun i τ m hR => by
      obtain ⟨k, hk, rfl, h1, h2, h3, h4⟩ := hR
      unfold fX12_mean_s61
      rw [qm_0, show (259 : Int32) = nI 259 from rfl]
      by_cases hi : i = 0
      · rw [if_pos ((n_le (by omega) (by omega)).mpr (by omega))]
        exact ⟨_, _, rfl, Or.inr ⟨show ¬ 90 = 61 by decide, rfl, h1, h2, h3, fun j hj => h4 j (by omega)⟩⟩
      · rw [if_neg (fun z => by rw [n_le (by omega) (by omega)] at z; omega)]
        simp (disch := omega) only [aL_3130, nI_toInt, nI_clamp, p_ck, p_seq, aR_1]
        refine ⟨_, _, rfl, Or.inl ⟨rfl, i - 1, by omega, k + 1, by omega, rfl, fun i hi => by rw [p_wI_o hi]; exact h1 i hi, h2, fun j hj => by rw [p_wI1, if_neg (by omega)]; exact h3 j hj, fun j hj => ?_⟩⟩
        rw [p_wI1]
        by_cases hjk : j = k
        · rw [if_pos ⟨rfl, by omega⟩, hjk]; exact h3 k (by omega)
        · rw [if_neg (by omega)]; exact h4 j (by omega))
    o_fuel 259 0 μ (fu (by omega)) ⟨0, by omega, rfl, fun i _ => rfl, rfl, fun j _ => rfl, fun j hj => by omega⟩
  exact ⟨m, q1, g1, g2, g3, g4⟩
theorem mn_back (x1 x2 : Int32) (x3 : Int64) (x5 : Int32) (μ : o_Mem) : ∃ m, o_lp 123 (fX12_mean_s123 rfM 0 x1 x2 x3 x5) o_fuel 0 μ = some ((155, 0), m) ∧ (∀ i, i ≠ 1 → m.1 i = μ.1 i) ∧ m.2 = μ.2 ∧ (∀ j, 259 ≤ j → m.1 1 j = μ.1 1 j) ∧ ∀ j, j < 259 → m.1 1 j = μ.1 1 (3130 + j) := by
  obtain ⟨e1, m, q1, rfl, g1, g2, g3, g4⟩ := lp_one (h := 123) (s := fX12_mean_s123 rfM 0 x1 x2 x3 x5)
    (fun i τ m => ∃ k, k + i = 259 ∧ τ = nI k ∧ (∀ i, i ≠ 1 → m.1 i = μ.1 i) ∧ m.2 = μ.2 ∧ (∀ j, 259 ≤ j → m.1 1 j = μ.1 1 j) ∧ ∀ j, j < k → m.1 1 j = μ.1 1 (3130 + j))
    (fun e m => e = (155, 0) ∧ (∀ i, i ≠ 1 → m.1 i = μ.1 i) ∧ m.2 = μ.2 ∧ (∀ j, 259 ≤ j → m.1 1 j = μ.1 1 j) ∧ ∀ j, j < 259 → m.1 1 j = μ.1 1 (3130 + j))
    (fun i τ m hR => by
      obtain ⟨k, hk, rfl, h1, h2, h3, h4⟩ := hR
      unfold fX12_mean_s123
      rw [qm_0, show (259 : Int32) = nI 259 from rfl]
      by_cases hi : i = 0
      · rw [if_pos ((n_le (by omega) (by omega)).mpr (by omega))]
        exact ⟨_, _, rfl, Or.inr ⟨show ¬ 155 = 123 by decide, rfl, h1, h2, h3, fun j hj => h4 j (by omega)⟩⟩
      · rw [if_neg (fun z => by rw [n_le (by omega) (by omega)] at z; omega)]
        simp (disch := omega) only [aL_3130, nI_toInt, nI_clamp, p_ck, p_seq, aR_1]
        refine ⟨_, _, rfl, Or.inl ⟨rfl, i - 1, by omega, k + 1, by omega, rfl, fun i hi => by rw [p_wI_o hi]; exact h1 i hi, h2, fun j hj => by rw [p_wI1, if_neg (by omega)]; exact h3 j hj, fun j hj => ?_⟩⟩
        rw [p_wI1]
        by_cases hjk : j = k
        · rw [if_pos ⟨rfl, by omega⟩, hjk]; exact h3 (3130 + k) (by omega)
        · rw [if_neg (by omega)]; exact h4 j (by omega))
    o_fuel 259 0 μ (fu (by omega)) ⟨0, by omega, rfl, fun i _ => rfl, rfl, fun j _ => rfl, fun j hj => by omega⟩
  exact ⟨m, q1, g1, g2, g3, g4⟩
theorem k37 : kdC 37 = .inl 1 := by decide
theorem k43 : kdC 43 = .inl 1 := by decide
theorem pu_mean (h : Inv μC μM) (x y : Int32) : o_Eq2 (fX11_mean rfC 0 x y μC) (fX12_mean rfM 0 x y μM) Inv := by
  obtain ⟨hw, hr⟩ := Inv_v h
  unfold fX11_mean fX12_mean fX11_mean_j35 fX12_mean_j35
  simp only [rc0_6, qm_0, e11_within, e12_isFrom, p_bd, bI_if, i64_of, c64_0, c64_1, c64_20, c64_9999, e11_ends, e12_is]
  by_cases hx : 0 ≤ x.toInt ∧ x.toInt ≤ 9999
  · rw [if_pos hx, if_pos hx]
    by_cases hy : 1 ≤ y.toInt ∧ y.toInt ≤ 20
    · rw [if_pos hy, if_pos hy]
      by_cases hxy : x + y - 1 ≤ 9999
      · rw [if_pos hxy, if_pos hxy]
        rcases pl_cases h with ⟨h0, h12⟩ | ⟨h0, h12, n, hp⟩
        · rw [if_pos h0, if_pos h12]; exact eq2_st h _ _ rfl rfl
        · rw [if_neg h0, if_neg h12]
          obtain ⟨Y, hY, hY2, rfl⟩ := rg_nI (x := y) (n := 21) (by omega)
          rw [nI_toInt hY2] at hy
          obtain ⟨M1, p1, p2, p3, p4, p5⟩ := mn_put x (nI Y) μM
          rw [p1, p_bd, if_pos rfl]
          obtain ⟨e1, m1, e2, m2, q1, q2, S, hS, rfl, rfl, R1, R2, R3, R4, R5, R6⟩ := lp_rel (h1 := 63) (h2 := 95) (s1 := fX11_mean_s63 rfC 0 x (nI Y)) (s2 := fX12_mean_s95 rfM 0 x (nI Y))
            (fun i τ1 l1 τ2 l2 => ∃ q S, q + i = Y ∧ S ≤ q * 1079892 ∧ τ1 = (lN S, nI q) ∧ τ2 = (lN S, nI q) ∧ (∀ i, i < 30 ∨ 50 ≤ i → i ≠ 142 → i ≠ 143 → l1.1 i = μC.1 i) ∧ (∀ i, i < 30 ∨ 50 ≤ i → l1.2 i = μC.2 i) ∧ (∀ i, i ≠ 0 → i ≠ 1 → i ≠ 16 → i ≠ 17 → l2.1 i = M1.1 i) ∧ (∀ k, k ≠ 32 → k ≠ 33 → l2.1 0 k = M1.1 0 k) ∧ l2.2 = M1.2 ∧ l2.1 1 = M1.1 1)
            (fun e1 l1 e2 l2 => ∃ S, S ≤ Y * 1079892 ∧ e1 = (116, (lN S, 0)) ∧ e2 = (161, (lN S, 0)) ∧ (∀ i, i < 30 ∨ 50 ≤ i → i ≠ 142 → i ≠ 143 → l1.1 i = μC.1 i) ∧ (∀ i, i < 30 ∨ 50 ≤ i → l1.2 i = μC.2 i) ∧ (∀ i, i ≠ 0 → i ≠ 1 → i ≠ 16 → i ≠ 17 → l2.1 i = M1.1 i) ∧ (∀ k, k ≠ 32 → k ≠ 33 → l2.1 0 k = M1.1 0 k) ∧ l2.2 = M1.2 ∧ l2.1 1 = M1.1 1)
            (fun i τ1 l1 τ2 l2 hR => by
              obtain ⟨q, S, hq, hS, rfl, rfl, R1, R2, R3, R4, R5, R6⟩ := hR
              unfold fX11_mean_s63 fX12_mean_s95
              rw [rc0_5, rc0_4, rc0_14, rc0_6, qm_0]
              by_cases hi : i = 0
              · rw [if_pos ((n_le (by omega) (by omega)).mpr (by omega)), if_pos ((n_le (by omega) (by omega)).mpr (by omega))]
                exact ⟨_, _, _, _, rfl, rfl, Or.inr ⟨show ¬ 116 = 63 by decide, show ¬ 161 = 95 by decide, S, by rw [show Y = q by omega]; exact hS, rfl, rfl, R1, R2, R3, R4, R5, R6⟩⟩
              · rw [if_neg (fun z => by rw [n_le (by omega) (by omega)] at z; omega), if_neg (fun z => by rw [n_le (by omega) (by omega)] at z; omega)]
                obtain ⟨m, a1, a2, a3, a4⟩ := e8_copy k30 k10 ⟨k37, k43, k17, k23⟩ (by omega) l1 (by rw [R1 10 (by omega) (by omega) (by omega)]; exact hw.2.2.2.1)
                have hc : ∀ j k, j < 19 → k < capV j → bV m 30 j k = bV μC 10 j k := fun j k hj hk => (a3 j k hj hk).trans (by rw [R1 (10 + j) (by omega) (by omega) (by omega)]; rfl)
                obtain ⟨c1, c2, c3, -⟩ := cN_cap hc
                have hr' : vR (bV μC 10) (l2.1 1) := vR_cap (fun _ _ _ _ => rfl) (fun k hk => by rw [R6]; exact p4 k (by omega)) hw.1 hr
                obtain ⟨r, n1, n2, hr3, b1, b2, hB⟩ := run_whole (v := 30) (n := n) (by omega) k30 k37 k43 (plD_c c1 c3 (fun j hj => by funext k; show m.1 (50 + j) k = μC.1 (50 + j) k; rw [(a2 (50 + j) (by omega)).1, R1 _ (by omega) (by omega) (by omega)]) (fun k hk => by rw [R6]; exact p4 k (by omega)) hp) (wfV_cap hc hw) (vR_cap hc (fun _ _ => rfl) hw.1 hr') (x + nI q)
                rw [a1, p_bd, b1, b2, p_bd, p_bd]
                obtain ⟨f1, f2, f3, f4, f5, f6, ⟨hw1, hr1, -⟩, -⟩ := hB
                obtain ⟨w, hw2, hw3⟩ := ws_nat hw1
                rw [e8_worthAll k30 hw1.1, p_bd, show n2.1 1 11 = wsum (bV n1 30) (cS (bV n1 30)) from hr1.1.2.2.2.2.2.2.2.2.2.2.2, hw3, nI_l (by omega), lN_add, aR_1]
                obtain ⟨t, d1, d2, d3, d4, d5⟩ := mn_back x (nI Y) (lN (S + w)) (nI q) n2
                rw [d1, p_bd, if_pos rfl]
                refine ⟨_, _, _, _, rfl, rfl, Or.inl ⟨rfl, rfl, i - 1, by omega, q + 1, S + w, by omega, by omega, rfl, rfl, fun i h1 h2 h3 => ?_, fun i h1 => ?_, fun i h1 h2 h3 h4 => ?_, fun k h1 h2 => ?_, d3.trans (f5.trans R5), ?_⟩⟩
                · rw [f1 i (by omega) h2 h3, (a2 i (by omega)).1]; exact R1 i h1 h2 h3
                · rw [f2, (a2 i (by omega)).2]; exact R2 i h1
                · rw [d2 i h2, f3 i h1 h2 h3 h4]; exact R3 i h1 h2 h3 h4
                · rw [d2 0 (by omega), f4 k h1 h2]; exact R4 k h1 h2
                · funext j
                  by_cases hj : j < 259
                  · rw [d5 j hj, f6 _ (by omega), R6, p5 j hj, p4 j (by omega)]
                  · rw [d4 j (by omega), f6 _ (by omega), R6])
            o_fuel Y (0, 0) μC (0, 0) M1 (fu (by omega)) ⟨0, 0, by omega, by omega, rfl, rfl, fun i _ _ _ => rfl, fun i _ => rfl, fun i _ _ _ _ => rfl, fun k _ _ => rfl, rfl, rfl⟩
          rw [q1, q2, p_bd, p_bd, if_pos rfl, if_pos rfl, nI_l (by omega)]
          refine eq2_fr (b := Y) (by omega) (by omega) (a := S) (by omega) (Inv_of (μC := μC) (μM := μM) h (fun i h1 h2 => R1 i (by omega) (by omega) (by omega)) (fun i h1 h2 => R2 i (by omega)) (fun k hk => by rw [R4 k (by omega) (by omega), p2 0 (by omega)]) (fun i h1 h2 => by rw [R3 i (by omega) (by omega) (by omega) (by omega), p2 i (by omega)]) (fun k h1 h2 => by rw [R6]; exact p4 k (by omega)) (by rw [R5, p3]; exact ⟨rfl, rfl⟩) (fun k _ _ => by rw [R5, p3]) (slR_c (fun i h1 h2 => ⟨R1 i (by omega) (by omega) (by omega), R2 i (by omega)⟩) (fun i h1 h2 => R1 i (by omega) (by omega) (by omega)) (fun k h1 h2 => by rw [R6]; exact p4 k (by omega)) (fun k h1 h2 => by rw [R5, p3]) h.2.2.2.2.1) ?_) ?_ ?_
          · have a7 := h.2.2.2.2.2.2
            unfold iLv at a7 ⊢
            rw [R1 144 (by omega) (by omega) (by omega), R4 37 (by omega) (by omega), p2 0 (by omega), R3 18 (by omega) (by omega) (by omega) (by omega), p2 18 (by omega)]
            exact a7
          · rfl
          · rw [e12_tellsBy rfM m2 (by omega) (by omega) (by omega)]
            rfl
      · rw [if_neg hxy, if_neg hxy]; exact eq2_st h _ _ rfl rfl
    · rw [if_neg hy, if_neg hy]; exact eq2_st h _ _ rfl rfl
  · rw [if_neg hx, if_neg hx]; exact eq2_st h _ _ rfl rfl
end li
