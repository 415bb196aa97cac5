/-! ===== WEEKS are run ===== -/
theorem row_22 {g : Nat → Nat → Int32} {n : Nat} {w a b c : Int32} {r : Nat → Int32} (h : rowR g n w a b c r) (h25 : ¬ w = 25) : ¬ r 0 = 22 := by
  rcases h with ⟨-, y, -⟩ | ⟨-, y, -⟩ | ⟨-, y⟩ | ⟨-, y⟩ | ⟨-, y⟩ | ⟨-, y⟩ | ⟨-, -, -, y⟩ | ⟨-, y, -⟩ | ⟨w, -⟩
  all_goals first | exact absurd w h25 | skip
  all_goals first | (rw [y]; decide) | skip
  rcases y with ⟨-, y, -⟩ | ⟨-, y⟩ | ⟨-, y, -⟩
  all_goals (rw [y]; decide)
theorem end_none {n : Nat} {μ2 : o_Mem} (hn : n ≤ 60) {k : Nat} (hk : k ≤ n) (h12 : μ2.1 1 12 = nI n) (h22 : k < n → ¬ μ2.1 1 (259 + 6 * k) = 22) : fX12_behindEnds_s2 rfM 0 (nI k) μ2 = some ((118, nI k), μ2) := by
  unfold fX12_behindEnds_s2
  rw [qm_0, h12]
  by_cases h : k < n
  · rw [if_neg (show ¬ nI n ≤ nI k by rw [n_le (by omega) (by omega)]; omega)]
    simp (disch := omega) only [mL_6, aL_259, nI_toInt, nI_clamp, p_ck]
    rw [if_neg (h22 h)]
  · rw [if_pos (show nI n ≤ nI k by rw [n_le (by omega) (by omega)]; omega)]
section rn
variable {v n : Nat} {g0 : Nat → Nat → Int32} {μC μM μ1 μ2 : o_Mem} {s : Nat}
theorem lpI_c {pl : Nat → Nat → Int32} {k k' : Nat} {m1 m2 : o_Mem} (h : lpI pl n k μ1 μ2) (e1 : m1.1 143 = μ1.1 143) (e2 : m2.1 16 = μ2.1 16) (hh : ∀ o, o < n → pl 1 o = 24 → o < k' → k' ≤ (pl 4 o).toNatClampNeg → o < k ∧ k ≤ (pl 4 o).toNatClampNeg) : lpI pl n k' m1 m2 := by
  intro o ho h24 h1 h2
  obtain ⟨h3, h4⟩ := hh o ho h24 h1 h2
  rw [e1, e2]
  exact h o ho h24 h3 h4
theorem lv_head (hn : n ≤ 60) (h33 : μ2.1 0 33 = nI s) (hs : s < 300) (h12 : μ2.1 1 12 = nI n) {k : Nat} (hk : k < n) (h23 : ¬ μ2.1 1 (259 + 6 * k) = 23) : fX12_lives_s32 rfM 0 (nI k) μ2 = o_bd (fX12_does rfM 0 (nI (259 + 6 * k)) (o_wI μ2 0 33 (nI (s + 1)))) fun r m => fX12_lives_j112 rfM 0 (nI k) (nI (259 + 6 * k)) 17 0 ((o_wI μ2 0 33 (nI (s + 1))).1 17 0) (if r = 0 then 1 else 0) m := by
  have e : (o_wI μ2 0 33 (nI (s + 1))).1 1 (259 + 6 * k) = μ2.1 1 (259 + 6 * k) := by rw [p_wI_o (by omega)]
  unfold fX12_lives_s32
  rw [qm_0, qm_35, h12, h33, if_neg (show ¬ nI n ≤ nI k by rw [n_le (by omega) (by omega)]; omega), if_neg (show ¬ nI s = 300 by rw [show (300 : Int32) = nI 300 from rfl, nI_inj (by omega) (by omega)]; omega)]
  simp (disch := omega) only [mL_6, aL_259, aR_1, p_seq, nI_toInt, nI_clamp, p_ck, e]
  rw [if_neg h23]
  congr 1
  funext r m
  by_cases h : r = 0
  · rw [if_pos h, if_pos h]
  · rw [if_neg h, if_neg h]
theorem op_fin {pl : Nat → Nat → Int32} (hn : n ≤ 60) (h33 : μ2.1 0 33 = nI s) (hs : s < 300) (h12 : μ2.1 1 12 = nI n) {k : Nat} (hk : k < n) (hL : lpI pl n k μ1 μ2) (h24 : ¬ pl 1 k = 24) {r0 : Int32} (hr0 : μM.1 1 (259 + 6 * k) = r0) (mr0 : μ2.1 1 (259 + 6 * k) = r0) (h23 : ¬ r0 = 23) (h21 : ¬ r0 = 21) (h2k : r0 < 2000) {d : Nat} {r : Int32} {m1 m2 : o_Mem} (hdr : (r = 0 ∧ d = 1) ∨ (r = 1 ∧ d = 0)) (q2 : fX12_does rfM 0 (nI (259 + 6 * k)) (o_wI μ2 0 33 (nI (s + 1))) = some (r, m2)) (hop : opR v g0 μC μM (o_wI μ1 142 5 (nI (s + 1))) (o_wI μ2 0 33 (nI (s + 1))) (s + 1) d m1 m2) : ∃ m2', fX12_lives_s32 rfM 0 (nI k) μ2 = fX12_lives_j178 rfM 0 0 (nI (k + 1)) m2' ∧ lvB v g0 μC μM 0 (s + 1) m1 m2' ∧ lpI pl n (k + 1) m1 m2' := by
  obtain ⟨o1, o2, o3, o4⟩ := hop
  have hd : (if r = 0 then (1 : Int32) else 0) = nI d := by
    rcases hdr with ⟨rfl, rfl⟩ | ⟨rfl, rfl⟩
    · rfl
    · rfl
  refine ⟨o_wI m2 17 0 (m2.1 17 0 + nI d), ?_, lvB_m2 o1, lpI_c hL (o2.trans (p_wI_o (by omega))) (by rw [p_wI_o (by omega), o3, p_wI_o (by omega)]) (fun o _ h1 h2 h3 => ?_)⟩
  · rw [lv_head hn h33 hs h12 hk (by rw [mr0]; exact h23), q2, p_bd, j112_1 (by omega) ((o1.2.2.2.2.2.1 _ (by omega)).trans hr0) h21 h2k, o4, hd]
  · have : o ≠ k := fun z => h24 (z ▸ h1)
    omega
theorem lv_step (hv50 : v + 20 ≤ 50) (hv : kdC v = .inl 8) (h7 : kdC (v + 7) = .inl 1) (h13 : kdC (v + 13) = .inl 1) (hp : plD g0 n (bV μC 50) (μM.1 1)) (hB : lvB v g0 μC μM 0 s μ1 μ2) (hs : s < 300) {k : Nat} (hk : k < n) (h25 : ¬ bV μC 50 1 k = 25) (h26 : ¬ bV μC 50 1 k = 26) (hL : lpI (bV μC 50) n k μ1 μ2) : ∃ k' m1 m2, k < k' ∧ k' ≤ n ∧ fX2_behindStep rfC 142 v 50 (nI k) (o_wI μ1 142 5 (nI (s + 1))) = some (nI k', m1) ∧ fX12_lives_s32 rfM 0 (nI k) μ2 = fX12_lives_j178 rfM 0 0 (nI k') m2 ∧ lvB v g0 μC μM 0 (s + 1) m1 m2 ∧ lpI (bV μC 50) n k' m1 m2 := by
  obtain ⟨hn, p2, p12, prow, pend, pop, pnest⟩ := hp
  have hB0 := hB
  obtain ⟨f1, f2, f3, f4, f5, f6, ⟨hw, hr, c1, c2, c3⟩, l1, l2, l3, l4, mm, l5, l6, l7⟩ := hB0
  have hA := lvB_st hv50 hB
  have hm : ∀ m, m < 2000 → (o_wI μ1 142 5 (nI (s + 1))).1 142 0 = nI m → m + 1 ≤ s + 1 := fun m hb h => lvB_ge hB hA m h (by omega) (by omega)
  have b51 : (o_wI μ1 142 5 (nI (s + 1))).1 51 k = bV μC 50 1 k := by rw [p_wI_o (by omega), f1 51 (by omega) (by omega) (by omega)]; rfl
  have b52 : (o_wI μ1 142 5 (nI (s + 1))).1 52 k = bV μC 50 2 k := by rw [p_wI_o (by omega), f1 52 (by omega) (by omega) (by omega)]; rfl
  have b53 : (o_wI μ1 142 5 (nI (s + 1))).1 53 k = bV μC 50 3 k := by rw [p_wI_o (by omega), f1 53 (by omega) (by omega) (by omega)]; rfl
  have b54 : (o_wI μ1 142 5 (nI (s + 1))).1 54 k = bV μC 50 4 k := by rw [p_wI_o (by omega), f1 54 (by omega) (by omega) (by omega)]; rfl
  have mr : ∀ j, (o_wI μ2 0 33 (nI (s + 1))).1 1 (259 + 6 * k + j) = μM.1 1 (259 + 6 * k + j) := fun j => by rw [p_wI_o (by omega)]; exact f6 _ (by omega)
  have mr0 : μ2.1 1 (259 + 6 * k) = μM.1 1 (259 + 6 * k) := f6 _ (by omega)
  have m12 : μ2.1 1 12 = nI n := (f6 12 (Or.inl rfl)).trans p12
  have e143 : (o_wI μ1 142 5 (nI (s + 1))).1 143 = μ1.1 143 := p_wI_o (by omega)
  have e16 : (o_wI μ2 0 33 (nI (s + 1))).1 16 = μ2.1 16 := p_wI_o (by omega)
  have row := prow k hk
  rcases row with ⟨w, r0, r1, x1, x2⟩ | ⟨w, r0, r1, r2, r3, x1, x2, x3⟩ | ⟨w, r0⟩ | ⟨w, r0⟩ | ⟨w, r0⟩ | ⟨w, r0⟩ | ⟨w, r4, x4, rw0⟩ | ⟨w, r0, r1, r4, x4, x1, x2⟩ | ⟨w, -⟩
  · obtain ⟨q, hq⟩ : ∃ q : Nat, bV μC 50 2 k = nI q ∧ q ≤ 20 := by
      obtain ⟨q, h1, h2, h3⟩ := rg_nI (x := bV μC 50 2 k) (n := 21) ⟨by omega, by omega⟩
      exact ⟨q, h3, by omega⟩
    obtain ⟨d, r, m1, m2, hdr, q1, q2, hop⟩ := op_day hv50 hv h7 h13 (by omega) hm hA (by omega) hq.2 (b51.trans w) (b52.trans hq.1) ((mr 0).trans r0) ((mr 1).trans (r1.trans hq.1))
    obtain ⟨m2', a1, a2, a3⟩ := op_fin hn l3 hs m12 hk hL (by rw [w]; decide) r0 (mr0.trans r0) (by decide) (by decide) (by decide) hdr q2 hop
    exact ⟨k + 1, m1, m2', by omega, by omega, q1, a1, a2, a3⟩
  · obtain ⟨d, r, m1, m2, hdr, q1, q2, hop⟩ := op_post hv50 hv h7 (by omega) hm hA (by omega) (b51.trans w) b52 b53 b54 ((mr 0).trans r0) ((mr 1).trans r1) ((mr 2).trans r2) ((mr 3).trans r3) x1 x2 x3
    obtain ⟨m2', a1, a2, a3⟩ := op_fin hn l3 hs m12 hk hL (by rw [w]; decide) r0 (mr0.trans r0) (by decide) (by decide) (by decide) hdr q2 hop
    exact ⟨k + 1, m1, m2', by omega, by omega, q1, a1, a2, a3⟩
  · obtain ⟨d, r, m1, m2, hdr, q1, q2, hop⟩ := op_drunk hv50 (by omega) hm hA (by omega) (Or.inl ⟨rfl, rfl⟩) (b51.trans w) ((mr 0).trans r0)
    obtain ⟨m2', a1, a2, a3⟩ := op_fin hn l3 hs m12 hk hL (by rw [w]; decide) r0 (mr0.trans r0) (by decide) (by decide) (by decide) hdr q2 hop
    exact ⟨k + 1, m1, m2', by omega, by omega, q1, a1, a2, a3⟩
  · obtain ⟨d, r, m1, m2, hdr, q1, q2, hop⟩ := op_drunk hv50 (by omega) hm hA (by omega) (Or.inr ⟨rfl, rfl⟩) (b51.trans w) ((mr 0).trans r0)
    obtain ⟨m2', a1, a2, a3⟩ := op_fin hn l3 hs m12 hk hL (by rw [w]; decide) r0 (mr0.trans r0) (by decide) (by decide) (by decide) hdr q2 hop
    exact ⟨k + 1, m1, m2', by omega, by omega, q1, a1, a2, a3⟩
  · obtain ⟨m1, m2, q1, q2, hop⟩ := op_any hv50 hA (by omega) (b51.trans w) ((mr 0).trans r0)
    obtain ⟨m2', a1, a2, a3⟩ := op_fin hn l3 hs m12 hk hL (by rw [w]; decide) r0 (mr0.trans r0) (by decide) (by decide) (by decide) (Or.inr ⟨rfl, rfl⟩) q2 hop
    exact ⟨k + 1, m1, m2', by omega, by omega, q1, a1, a2, a3⟩
  · exact absurd w h26
  · obtain ⟨E, hE1, hE2, hE3, hE4, -⟩ := pop k hk (Or.inl w)
    have hEc : (bV μC 50 4 k).toNatClampNeg = E := by rw [hE3, nI_clamp (by omega)]
    generalize hA1 : o_wI μ1 142 5 (nI (s + 1)) = A1 at *
    generalize hA2 : o_wI μ2 0 33 (nI (s + 1)) = A2 at *
    obtain ⟨r, hr01, q1, q2⟩ := e_holds (a := bV μC 50 2 k) (b := bV μC 50 3 k) (k := k) hv h13 hA.2.2.2.2.2.2.1.1 hA.2.2.2.2.2.2.1.2.1 (by omega) (by
      rcases rw0 with ⟨y1, y2, y3, -⟩ | ⟨y1, y2⟩ | ⟨y1, y2, y3, y4⟩
      · exact Or.inl ⟨y1, (mr 0).trans y2, (mr 1).trans y3⟩
      · exact Or.inr (Or.inl ⟨y1, (mr 0).trans y2⟩)
      · exact Or.inr (Or.inr ⟨y1, (mr 0).trans y2, (mr 5).trans y3, (mr 2).trans y4⟩))
    obtain ⟨r0, hr0, hn15, hn16, hn17, hn18, hn19, hn21, hn23, hn2k⟩ : ∃ r0, μM.1 1 (259 + 6 * k) = r0 ∧ ¬ r0 = 15 ∧ ¬ r0 = 16 ∧ ¬ r0 = 17 ∧ ¬ r0 = 18 ∧ ¬ r0 = 19 ∧ ¬ r0 = 21 ∧ ¬ r0 = 23 ∧ ¬ r0 < 2000 := by
      rcases rw0 with ⟨y1, y2, y3, -⟩ | ⟨y1, y2⟩ | ⟨y1, y2, y3, y4⟩
      · exact ⟨_, y2, by decide⟩
      · exact ⟨_, y2, by decide⟩
      · exact ⟨_, y2, by decide⟩
    have hz : o_wI A2 17 0 (A2.1 17 0 + 0) = A2 := wI_same (Int32.add_zero _).symm
    have hdoes : fX12_does rfM 0 (nI (259 + 6 * k)) A2 = some (1, A2) := by
      have h00 : A2.1 1 (259 + 6 * k) = r0 := (mr 0).trans hr0
      unfold fX12_does
      simp (disch := omega) only [nI_toInt, nI_clamp, p_ck, qm_0, h00]
      rw [if_neg hn15, if_neg hn16, if_neg hn17, if_neg hn18, if_neg hn19]
    refine ⟨if r = 0 then E + 1 else k + 1, A1, A2, ?_, ?_, ?_, ?_, hA, lpI_c hL e143 e16 ?_⟩
    · split <;> omega
    · split <;> omega
    · unfold fX2_behindStep
      rw [rc50_3, rc50_4, rc50_5, rc50_6]
      simp (disch := omega) only [nI_toInt, nI_clamp, p_ck, b51, w, b52, b53, q1, p_bd, b54, hE3, aR_1]
      rw [if_neg (by decide), if_neg (by decide), if_neg (by decide), if_neg (by decide), if_neg (by decide), if_pos trivial]
      split <;> rfl
    · rw [lv_head hn l3 hs m12 hk (by rw [mr0, hr0]; exact hn23), hA2, hdoes, p_bd, if_neg (show ¬ (1 : Int32) = 0 by decide), j112_3 (r := r) (by omega) ((mr 0).trans hr0) hn21 hn2k ((mr 4).trans (r4.trans hE3)) (by rw [hz]; exact q2), hz, aR_1]
      split <;> rfl
    · intro o ho h24 h1 h2
      have hok : o ≠ k := fun z => absurd (w.symm.trans (z ▸ h24)) (by decide)
      by_cases hrr : r = 0
      · rw [if_pos hrr] at h1 h2
        have hoE : o ≠ E := fun z => absurd (hE4.symm.trans (z ▸ h24)) (by decide)
        by_cases hlt : o < k
        · exact ⟨hlt, by omega⟩
        · have := pnest k o hk (Or.inl w) (by omega) (by omega) (Or.inr h24)
          omega
      · rw [if_neg hrr] at h1 h2
        omega
  · obtain ⟨q, hq, hq9, hq1⟩ : ∃ q : Nat, bV μC 50 2 k = nI q ∧ q ≤ 99 ∧ 1 ≤ q := by
      obtain ⟨q, h1, h2, h3⟩ := rg_nI (x := bV μC 50 2 k) (n := 100) ⟨by omega, by omega⟩
      rw [h3, nI_toInt h2] at x1
      exact ⟨q, h3, by omega, by omega⟩
    generalize hA1 : o_wI μ1 142 5 (nI (s + 1)) = A1 at *
    generalize hA2 : o_wI μ2 0 33 (nI (s + 1)) = A2 at *
    have hz : o_wI A2 17 0 (A2.1 17 0 + 0) = A2 := wI_same (Int32.add_zero _).symm
    have hdoes : fX12_does rfM 0 (nI (259 + 6 * k)) A2 = some (1, A2) := by
      have h00 : A2.1 1 (259 + 6 * k) = 21 := (mr 0).trans r0
      unfold fX12_does
      simp (disch := omega) only [nI_toInt, nI_clamp, p_ck, qm_0, h00]
      rfl
    refine ⟨k + 1, _, _, by omega, by omega, ?_, ?_, lvB_lp hv50 hA k (nI q) (nI q - 1), ?_⟩
    · unfold fX2_behindStep
      rw [rc50_3, rc50_4, rc50_5, rc50_6, rc142_7]
      simp (disch := omega) only [nI_toInt, nI_clamp, p_ck, b51, w, b52, hq, p_seq, aR_1]
      rfl
    · rw [lv_head hn l3 hs m12 hk (by rw [mr0, show μM.1 1 (259 + 6 * k) = 21 from r0]; decide), hA2, hdoes, p_bd, if_neg (show ¬ (1 : Int32) = 0 by decide), j112_2 (by omega) ((mr 0).trans r0) ((mr 1).trans (r1.trans hq)), hz]
    · intro o ho h24 h1 h2
      by_cases hok : o = k
      · exact ⟨q - 1, by omega, by rw [p_wI1, if_pos ⟨rfl, hok⟩]; congr 1; omega, by rw [p_wI1, if_pos ⟨rfl, hok⟩]; exact nI_sub2 (b := 1) hq1⟩
      · obtain ⟨c, y1, y2, y3⟩ := hL o ho h24 (by omega) (by omega)
        exact ⟨c, y1, by rw [p_wI1, if_neg (fun z => hok z.2), e143]; exact y2, by rw [p_wI1, if_neg (fun z => hok z.2), e16]; exact y3⟩
  · exact absurd w h25
theorem nI_s0 (c : Nat) : nI c - 0 = nI c := by rw [show nI c - 0 = nI c - nI 0 from rfl, nI_sub2 (by omega)]; rfl
theorem nI_s1 (c : Nat) : nI (c + 1) - 1 = nI c := by rw [show nI (c + 1) - 1 = nI (c + 1) - nI 1 from rfl, nI_sub2 (by omega)]; rfl
theorem end_step (hv50 : v + 20 ≤ 50) (hp : plD g0 n (bV μC 50) (μM.1 1)) (hB : lvB v g0 μC μM 0 s μ1 μ2) {k : Nat} (hk : k < n) (h25 : bV μC 50 1 k = 25) (hL : lpI (bV μC 50) n k μ1 μ2) : ∃ o m1 m2, o < k ∧ bV μC 50 4 o = nI k ∧ (bV μC 50 1 o = 20 ∨ bV μC 50 1 o = 24) ∧ lvB v g0 μC μM 0 s m1 m2 ∧
    ((fX2_behindEnd rfC 142 50 (nI k) μ1 = some (nI (k + 1), m1) ∧ fX12_behindEnds_s2 rfM 0 (nI k) μ2 = some ((2, nI (k + 1)), m2) ∧ lpI (bV μC 50) n (k + 1) m1 m2) ∨
     (bV μC 50 1 o = 24 ∧ ∃ c, c ≤ 97 ∧ μ2.1 16 o = nI (c + 1) ∧ m2.1 16 o = nI c ∧ fX2_behindEnd rfC 142 50 (nI k) μ1 = some (nI (o + 1), m1) ∧ fX12_behindEnds_s2 rfM 0 (nI k) μ2 = some ((2, nI (o + 1)), m2) ∧ lpI (bV μC 50) n (o + 1) m1 m2)) := by
  obtain ⟨hn, p2, p12, prow, pend, pop, pnest⟩ := hp
  obtain ⟨o, ho, he, hop, hb⟩ := pend k hk h25
  have hB0 := hB
  obtain ⟨f1, f2, f3, f4, f5, f6, -⟩ := hB0
  have hbc : (bV μC 50 4 o).toNatClampNeg = k := by rw [hb, nI_clamp (by omega)]
  have b54 : μ1.1 54 k = nI o := by rw [f1 54 (by omega) (by omega) (by omega)]; exact he
  have b51 : μ1.1 51 o = bV μC 50 1 o := by rw [f1 51 (by omega) (by omega) (by omega)]; rfl
  have m12 : μ2.1 1 12 = nI n := (f6 12 (Or.inl rfl)).trans p12
  have hr : μ2.1 1 (259 + 6 * k) = 22 ∧ μ2.1 1 (259 + 6 * k + 4) = nI o := by
    rw [f6 _ (by omega), f6 _ (by omega)]
    have row := prow k hk
    rw [h25] at row
    rcases row with ⟨w, -⟩ | ⟨w, -⟩ | ⟨w, -⟩ | ⟨w, -⟩ | ⟨w, -⟩ | ⟨w, -⟩ | ⟨w, -⟩ | ⟨w, -⟩ | ⟨-, r0, r4, -⟩
    all_goals first | exact absurd w (by decide) | exact ⟨r0, r4.trans he⟩
  have hro : ∃ r0, μ2.1 1 (259 + 6 * o) = r0 ∧ ((bV μC 50 1 o = 24 ∧ r0 = 21) ∨ (bV μC 50 1 o = 20 ∧ ¬ r0 = 21)) := by
    rw [f6 _ (by omega)]
    have row := prow o (by omega)
    rcases hop with hw | hw
    · rw [hw] at row
      rcases row with ⟨w, -⟩ | ⟨w, -⟩ | ⟨w, -⟩ | ⟨w, -⟩ | ⟨w, -⟩ | ⟨w, -⟩ | ⟨-, -, -, rw0⟩ | ⟨w, -⟩ | ⟨w, -⟩
      all_goals first | exact absurd w (by decide) | skip
      rcases rw0 with ⟨y1, y2, y3, -⟩ | ⟨y1, y2⟩ | ⟨y1, y2, y3, y4⟩
      · exact ⟨_, y2, Or.inr ⟨hw, by decide⟩⟩
      · exact ⟨_, y2, Or.inr ⟨hw, by decide⟩⟩
      · exact ⟨_, y2, Or.inr ⟨hw, by decide⟩⟩
    · rw [hw] at row
      rcases row with ⟨w, -⟩ | ⟨w, -⟩ | ⟨w, -⟩ | ⟨w, -⟩ | ⟨w, -⟩ | ⟨w, -⟩ | ⟨w, -⟩ | ⟨-, r0, -⟩ | ⟨w, -⟩
      all_goals first | exact absurd w (by decide) | exact ⟨_, r0, Or.inl ⟨hw, rfl⟩⟩
  obtain ⟨r0, hr0, hro⟩ := hro
  unfold fX2_behindEnd fX12_behindEnds_s2 fX12_behindEnds_j78 fX12_behindEnds_j79 fX12_behindEnds_j98
  rw [rc50_3, rc50_6, rc142_7, qm_0, qm_34, m12, if_neg (show ¬ nI n ≤ nI k by rw [n_le (by omega) (by omega)]; omega)]
  simp (disch := omega) only [mL_6, aL_259, aR_4, nI_toInt, nI_clamp, p_ck, hr.1, hr.2, b54, b51, hr0, p_seq, aR_1]
  rw [if_pos trivial]
  rcases hro with ⟨h24, h21⟩ | ⟨h20, h21⟩
  · obtain ⟨c, hc, y1, y2⟩ := hL o (by omega) h24 ho (by omega)
    rw [if_pos h24, if_pos h21, y1, y2, nI_s1, show (o_wI μ1 143 o (nI c)).1 143 o = nI c by rw [p_wI1, if_pos ⟨rfl, rfl⟩]]
    by_cases h0 : c = 0
    · rw [if_pos (show nI c ≤ 0 by rw [h0]; decide), if_pos (show nI c ≤ 0 by rw [h0]; decide)]
      refine ⟨o, o_wI μ1 143 o (nI c), o_wI μ2 16 o (nI c - 0), ho, hb, hop, lvB_lp hv50 hB o (nI c) _, Or.inl ⟨rfl, rfl, fun o' h1 h2 h3 h4 => ?_⟩⟩
      have hne : o' ≠ o := fun z => by rw [z] at h4; omega
      have hnk : o' ≠ k := fun z => absurd (h25.symm.trans (z ▸ h2)) (by decide)
      obtain ⟨c', z1, z2, z3⟩ := hL o' h1 h2 (by omega) (by omega)
      exact ⟨c', z1, by rw [p_wI1, if_neg (fun z => hne z.2)]; exact z2, by rw [p_wI1, if_neg (fun z => hne z.2)]; exact z3⟩
    · obtain ⟨c', rfl⟩ : ∃ c', c = c' + 1 := ⟨c - 1, by omega⟩
      rw [if_neg (show ¬ nI (c' + 1) ≤ 0 by rw [show (0 : Int32) = nI 0 from rfl, n_le (by omega) (by omega)]; omega), if_neg (show ¬ nI (c' + 1) ≤ 0 by rw [show (0 : Int32) = nI 0 from rfl, n_le (by omega) (by omega)]; omega), nI_s1]
      refine ⟨o, o_wI μ1 143 o (nI (c' + 1)), o_wI μ2 16 o (nI c'), ho, hb, hop, lvB_lp hv50 hB o _ _, Or.inr ⟨h24, c', by omega, y2, by rw [p_wI1, if_pos ⟨rfl, rfl⟩], rfl, rfl, fun o' h1 h2 h3 h4 => ?_⟩⟩
      by_cases hne : o' = o
      · exact ⟨c', by omega, by rw [p_wI1, if_pos ⟨rfl, hne⟩], by rw [p_wI1, if_pos ⟨rfl, hne⟩]⟩
      · have := pnest o' o h1 (Or.inr h2) (by omega) (by omega) hop
        obtain ⟨c2, z1, z2, z3⟩ := hL o' h1 h2 (by omega) (by omega)
        exact ⟨c2, z1, by rw [p_wI1, if_neg (fun z => hne z.2)]; exact z2, by rw [p_wI1, if_neg (fun z => hne z.2)]; exact z3⟩
  · rw [if_neg (show ¬ bV μC 50 1 o = 24 by rw [h20]; decide), if_neg h21]
    refine ⟨o, μ1, o_wI μ2 16 o (μ2.1 16 o - 0), ho, hb, hop, ?_, Or.inl ⟨rfl, rfl, ?_⟩⟩
    · rw [wI_same (Int32.sub_zero _).symm]; exact hB
    · rw [wI_same (Int32.sub_zero _).symm]
      refine lpI_c hL rfl rfl fun o' h1 h2 h3 h4 => ?_
      have hnk : o' ≠ k := fun z => absurd (h25.symm.trans (z ▸ h2)) (by decide)
      omega
theorem run_ends (hv50 : v + 20 ≤ 50) (hp : plD g0 n (bV μC 50) (μM.1 1)) : ∀ (m k : Nat) (μ1 μ2 : o_Mem), lvB v g0 μC μM 0 s μ1 μ2 → lpI (bV μC 50) n k μ1 μ2 → k ≤ n → (k < n → bV μC 50 1 k = 25 → 60 - k ≤ m ∧ (0 < k → bV μC 50 1 (k - 1) = 24 → ∀ c, c ≤ 98 → μ2.1 16 (k - 1) = nI c → 60 - k + c ≤ m)) → ∃ j k' m1 m2, j ≤ m ∧ k' ≤ n ∧ (k' < n → ¬ bV μC 50 1 k' = 25) ∧ lvB v g0 μC μM 0 s m1 m2 ∧ lpI (bV μC 50) n k' m1 m2 ∧ (∀ N b, b + j ≤ 1000000 → o_lp 41 (fX2_run_s41 rfC 142 v 50) (N + j) (nI k, nI b) μ1 = o_lp 41 (fX2_run_s41 rfC 142 v 50) N (nI k', nI (b + j)) m1) ∧ o_lp 2 (fX12_behindEnds_s2 rfM 0) (j + 1) (nI k) μ2 = some ((118, nI k'), m2) := by
  intro m
  induction m with
  | zero =>
    intro k μ1 μ2 hB hL hkn hm
    obtain ⟨hn, p2, p12, prow, -⟩ := hp
    have f6 := hB.2.2.2.2.2.1
    have h25 : k < n → ¬ bV μC 50 1 k = 25 := fun h1 h2 => by have := hm h1 h2; omega
    refine ⟨0, k, μ1, μ2, by omega, hkn, h25, hB, hL, fun N b _ => rfl, p_lp_exit ?_ (by decide)⟩
    exact end_none hn hkn ((f6 12 (Or.inl rfl)).trans p12) (fun h => by rw [f6 _ (by omega)]; exact row_22 (prow k h) (h25 h))
  | succ m ih =>
    intro k μ1 μ2 hB hL hkn hm
    by_cases h25 : k < n → ¬ bV μC 50 1 k = 25
    · obtain ⟨hn, p2, p12, prow, -⟩ := hp
      have f6 := hB.2.2.2.2.2.1
      refine ⟨0, k, μ1, μ2, by omega, hkn, h25, hB, hL, fun N b _ => rfl, p_lp_exit ?_ (by decide)⟩
      exact end_none hn hkn ((f6 12 (Or.inl rfl)).trans p12) (fun h => by rw [f6 _ (by omega)]; exact row_22 (prow k h) (h25 h))
    · have hk : k < n := Classical.byContradiction fun z => h25 fun h => absurd h z
      have h25 : bV μC 50 1 k = 25 := Classical.byContradiction fun z => h25 fun _ => z
      obtain ⟨o, m1, m2, ho, hb, hop, hB1, hst⟩ := end_step hv50 hp hB hk h25 hL
      obtain ⟨hm1, hm2⟩ := hm hk h25
      have hn : n ≤ 60 := hp.1
      have hpm := hp.2.1
      have f1 := hB.1
      have cls : ∀ r, fX2_behindEnd rfC 142 50 (nI k) μ1 = some (r, m1) → ∀ b, b < 1000000 → fX2_run_s41 rfC 142 v 50 (nI k, nI b) μ1 = some ((41, (r, nI (b + 1))), m1) := by
        intro r h1 b hb
        unfold fX2_run_s41
        have e2 : μ1.1 50 2 = nI n := by rw [f1 50 (by omega) (by omega) (by omega)]; exact hpm
        have e51 : μ1.1 51 k = 25 := by rw [f1 51 (by omega) (by omega) (by omega)]; exact h25
        simp (disch := omega) only [rc50_3, nI_toInt, nI_clamp, p_ck, e51, h1, p_bd, e2, aR_1]
        rw [if_neg (show ¬ 1000000 ≤ nI b by rw [show (1000000 : Int32) = nI 1000000 from rfl, n_le (by omega) (by omega)]; omega), if_neg (show ¬ nI n ≤ nI k by rw [n_le (by omega) (by omega)]; omega), if_pos trivial]
      rcases hst with ⟨q1, q2, hL1⟩ | ⟨h24, c, hc, y1, y2, q1, q2, hL1⟩
      · obtain ⟨j, k', n1, n2, z1, z2, z3, z4, z5, z6, z7⟩ := ih (k + 1) m1 m2 hB1 hL1 (by omega) (fun h1 h2 => ⟨by omega, fun _ h4 => absurd (h25.symm.trans h4) (by decide)⟩)
        refine ⟨j + 1, k', n1, n2, by omega, z2, z3, z4, z5, fun N b hN => ?_, (p_lp_next q2).trans z7⟩
        rw [← Nat.add_assoc, p_lp_next (cls _ q1 b (by omega)), z6 N (b + 1) (by omega), show b + 1 + j = b + (j + 1) by omega]
      · have hkk : ¬ o + 1 = k → o + 1 < n → ¬ bV μC 50 1 (o + 1) = 25 := by
          intro hne _ hw
          obtain ⟨o2, a1, a2, a3, a4⟩ := hp.2.2.2.2.1 (o + 1) (by omega) hw
          have hne2 : o2 ≠ o := fun z => by rw [z, hb, nI_inj (by omega) (by omega)] at a4; omega
          have := hp.2.2.2.2.2.2 o2 o (by omega) a3 (by omega) (by rw [a4, nI_clamp (by omega)]; omega) hop
          rw [hb, a4, nI_clamp (by omega), nI_clamp (by omega)] at this
          omega
        obtain ⟨j, k', n1, n2, z1, z2, z3, z4, z5, z6, z7⟩ := ih (o + 1) m1 m2 hB1 hL1 (by omega) (fun h1 h2 => by
          by_cases hne : o + 1 = k
          · have hko : k - 1 = o := by omega
            have := hm2 (by omega) (by rw [hko]; exact h24) (c + 1) (by omega) (by rw [hko]; exact y1)
            refine ⟨by omega, fun _ _ c' hc' h5 => ?_⟩
            rw [show o + 1 - 1 = o by omega, y2, nI_inj (by omega) (by omega)] at h5
            omega
          · exact absurd h2 (hkk hne h1))
        refine ⟨j + 1, k', n1, n2, by omega, z2, z3, z4, z5, fun N b hN => ?_, (p_lp_next q2).trans z7⟩
        rw [← Nat.add_assoc, p_lp_next (cls _ q1 b (by omega)), z6 N (b + 1) (by omega), show b + 1 + j = b + (j + 1) by omega]
theorem run_main (hv50 : v + 20 ≤ 50) (hv : kdC v = .inl 8) (h7 : kdC (v + 7) = .inl 1) (h13 : kdC (v + 13) = .inl 1) (hp : plD g0 n (bV μC 50) (μM.1 1)) : ∀ (i q k b : Nat) (μ1 μ2 : o_Mem), q + i = 300 → lvB v g0 μC μM 0 q μ1 μ2 → lpI (bV μC 50) n k μ1 μ2 → k ≤ n → (k < n → ¬ bV μC 50 1 k = 25) → b ≤ 160 * q → ∃ N e q' m1 m2 m3, N ≤ 161 * i + 2 ∧ q' ≤ 300 ∧ o_lp 41 (fX2_run_s41 rfC 142 v 50) N (nI k, nI b) μ1 = some ((131, (0, 0)), m1) ∧ o_lp 32 (fX12_lives_s32 rfM 0) (i + 1) (nI k) μ2 = some ((e, 0), m2) ∧ ((e = 53 ∧ m3 = o_wI m2 17 4 1) ∨ ((e = 91 ∨ e = 185) ∧ m3 = m2)) ∧ lvB v g0 μC μM 0 q' m1 m3 := by
  intro i
  have hn : n ≤ 60 := hp.1
  have hpm := hp.2.1
  have hp12 := hp.2.2.1
  have fin : ∀ (μ1 μ2 : o_Mem) (q b : Nat), lvB v g0 μC μM 0 q μ1 μ2 → b ≤ 1000000 → fX2_run_s41 rfC 142 v 50 (nI n, nI b) μ1 = some ((131, (0, 0)), μ1) := fun μ1 μ2 q b hB hb => by
    have e2 : μ1.1 50 2 = nI n := by rw [hB.1 50 (by omega) (by omega) (by omega)]; exact hpm
    unfold fX2_run_s41
    rw [e2, if_pos (show nI n ≤ nI n by rw [n_le (by omega) (by omega)]; omega)]
    split <;> rfl
  have hd : ∀ (μ1 μ2 : o_Mem) (q k b : Nat), lvB v g0 μC μM 0 q μ1 μ2 → k < n → ¬ bV μC 50 1 k = 25 → b < 1000000 → q < 2000 → fX2_run_s41 rfC 142 v 50 (nI k, nI b) μ1 = if q < 300 then o_bd (fX2_behindStep rfC 142 v 50 (nI k) (o_wI μ1 142 5 (nI (q + 1)))) (fun r m => some ((41, (r, nI (b + 1))), m)) else some ((41, (nI n, nI (b + 1))), o_wI μ1 142 4 1) := fun μ1 μ2 q k b hB hk h25 hb hq => by
    have e2 : μ1.1 50 2 = nI n := by rw [hB.1 50 (by omega) (by omega) (by omega)]; exact hpm
    have e3 : (o_wI μ1 142 4 1).1 50 2 = nI n := by rw [p_wI_o (by omega)]; exact e2
    have e51 : μ1.1 51 k = bV μC 50 1 k := by rw [hB.1 51 (by omega) (by omega) (by omega)]; rfl
    have e5 : μ1.1 142 5 = nI q := hB.2.2.2.2.2.2.2.2.1
    unfold fX2_run_s41
    simp (disch := omega) only [rc50_3, nI_toInt, nI_clamp, p_ck, e51, e2, e3, e5, aR_1, p_seq]
    rw [if_neg (show ¬ 1000000 ≤ nI b by rw [show (1000000 : Int32) = nI 1000000 from rfl, n_le (by omega) (by omega)]; omega), if_neg (show ¬ nI n ≤ nI k by rw [n_le (by omega) (by omega)]; omega), if_neg h25]
    by_cases h3 : q < 300
    · rw [if_pos h3, if_pos (show nI q < 300 by rw [show (300 : Int32) = nI 300 from rfl, n_lt (by omega) (by omega)]; omega)]
    · rw [if_neg h3, if_neg (show ¬ nI q < 300 by rw [show (300 : Int32) = nI 300 from rfl, n_lt (by omega) (by omega)]; omega)]
  induction i with
  | zero =>
    intro q k b μ1 μ2 hq hB hL hkn h25 hb
    have m12 : μ2.1 1 12 = nI n := (hB.2.2.2.2.2.1 12 (Or.inl rfl)).trans hp12
    by_cases hk : k < n
    · have hB2 := lvB_ct hv50 hB (j := 4) (by omega) (by omega) 1
      refine ⟨2, 53, q, o_wI μ1 142 4 1, μ2, _, by omega, by omega, ?_, p_lp_exit ?_ (by decide), Or.inl ⟨rfl, rfl⟩, hB2⟩
      · rw [p_lp_next ((hd μ1 μ2 q k b hB hk (h25 hk) (by omega) (by omega)).trans (if_neg (by omega)))]
        exact p_lp_exit (fin _ _ _ _ hB2 (by omega)) (show ¬ 131 = 41 by decide)
      · unfold fX12_lives_s32
        rw [qm_0, m12, if_neg (show ¬ nI n ≤ nI k by rw [n_le (by omega) (by omega)]; omega), show μ2.1 0 33 = nI q from hB.2.2.2.2.2.2.2.2.2.1, if_pos (show nI q = 300 by rw [show q = 300 by omega]; rfl)]
    · have hk2 : k = n := by omega
      rw [hk2]
      refine ⟨1, 185, q, μ1, μ2, _, by omega, by omega, p_lp_exit (fin _ _ _ _ hB (by omega)) (show ¬ 131 = 41 by decide), p_lp_exit ?_ (by decide), Or.inr ⟨Or.inr rfl, rfl⟩, hB⟩
      unfold fX12_lives_s32
      rw [qm_0, m12, if_pos (show nI n ≤ nI n by rw [n_le (by omega) (by omega)]; omega)]
  | succ i ih =>
    intro q k b μ1 μ2 hq hB hL hkn h25 hb
    have m12 : μ2.1 1 12 = nI n := (hB.2.2.2.2.2.1 12 (Or.inl rfl)).trans hp12
    by_cases hk : k < n
    · by_cases h26 : bV μC 50 1 k = 26
      · have hB2 := lvB_st hv50 hB
        have hr0 : (o_wI μ2 0 33 (nI (q + 1))).1 1 (259 + 6 * k) = 23 := by
          rw [p_wI_o (by omega), hB.2.2.2.2.2.1 _ (by omega)]
          have row := hp.2.2.2.1 k hk
          rw [h26] at row
          rcases row with ⟨w, -⟩ | ⟨w, -⟩ | ⟨w, -⟩ | ⟨w, -⟩ | ⟨w, -⟩ | ⟨-, r0⟩ | ⟨w, -⟩ | ⟨w, -⟩ | ⟨w, -⟩
          all_goals first | exact absurd w (by decide) | exact r0
        refine ⟨2, 91, q + 1, o_wI μ1 142 5 (nI (q + 1)), o_wI μ2 0 33 (nI (q + 1)), _, by omega, by omega, ?_, p_lp_exit ?_ (by decide), Or.inr ⟨Or.inl rfl, rfl⟩, hB2⟩
        · have hst : fX2_behindStep rfC 142 v 50 (nI k) (o_wI μ1 142 5 (nI (q + 1))) = some (nI n, o_wI μ1 142 5 (nI (q + 1))) := by
            have e2 : (o_wI μ1 142 5 (nI (q + 1))).1 50 2 = nI n := by rw [p_wI_o (by omega), hB.1 50 (by omega) (by omega) (by omega)]; exact hpm
            have e51 : (o_wI μ1 142 5 (nI (q + 1))).1 51 k = 26 := by rw [p_wI_o (by omega), hB.1 51 (by omega) (by omega) (by omega)]; exact h26
            unfold fX2_behindStep
            rw [rc50_3]
            simp (disch := omega) only [nI_toInt, nI_clamp, p_ck, e51, e2]
            rfl
          rw [p_lp_next (((hd μ1 μ2 q k b hB hk (h25 hk) (by omega) (by omega)).trans (if_pos (by omega))).trans (by rw [hst]; rfl))]
          exact p_lp_exit (fin _ _ _ _ hB2 (by omega)) (show ¬ 131 = 41 by decide)
        · unfold fX12_lives_s32
          rw [qm_0, m12, if_neg (show ¬ nI n ≤ nI k by rw [n_le (by omega) (by omega)]; omega), show μ2.1 0 33 = nI q from hB.2.2.2.2.2.2.2.2.2.1, if_neg (show ¬ nI q = 300 by rw [show (300 : Int32) = nI 300 from rfl, nI_inj (by omega) (by omega)]; omega)]
          simp (disch := omega) only [mL_6, aL_259, aR_1, p_seq, nI_toInt, nI_clamp, p_ck, hr0]
          rfl
      · obtain ⟨k1, m1, m2, hk1, hk1n, q1, q2, hB1, hL1⟩ := lv_step hv50 hv h7 h13 hp hB (by omega) hk (h25 hk) h26 hL
        obtain ⟨j, k2, n1, n2, z1, z2, z3, z4, z5, z6, z7⟩ := run_ends (s := q + 1) hv50 hp 158 k1 m1 m2 hB1 hL1 hk1n (fun _ _ => ⟨by omega, fun _ _ c hc _ => by omega⟩)
        obtain ⟨N, e, q', x1, x2, x3, y1, y2, y3, y4, y5, y6⟩ := ih (q + 1) k2 (b + 1 + j) n1 n2 (by omega) z4 z5 z2 z3 (by omega)
        refine ⟨N + j + 1, e, q', x1, x2, x3, by omega, y2, ?_, ?_, y5, y6⟩
        · rw [p_lp_next (((hd μ1 μ2 q k b hB hk (h25 hk) (by omega) (by omega)).trans (if_pos (by omega))).trans (by rw [q1]; rfl)), z6 N (b + 1) (by omega)]
          exact y3
        · have : fX12_lives_s32 rfM 0 (nI k) μ2 = some ((32, nI k2), n2) := by
            rw [q2]
            unfold fX12_lives_j178 fX12_behindEnds
            rw [p_lp z7 (by omega)]
            rfl
          exact (p_lp_next this).trans y4
    · have hk2 : k = n := by omega
      rw [hk2]
      refine ⟨1, 185, q, μ1, μ2, _, by omega, by omega, p_lp_exit (fin _ _ _ _ hB (by omega)) (show ¬ 131 = 41 by decide), p_lp_exit ?_ (by decide), Or.inr ⟨Or.inr rfl, rfl⟩, hB⟩
      unfold fX12_lives_s32
      rw [qm_0, m12, if_pos (show nI n ≤ nI n by rw [n_le (by omega) (by omega)]; omega)]
theorem run_whole (hv50 : v + 20 ≤ 50) (hv : kdC v = .inl 8) (h7 : kdC (v + 7) = .inl 1) (h13 : kdC (v + 13) = .inl 1) (hp : plD (bV μC v) n (bV μC 50) (μM.1 1)) (hw : wfV (bV μC v)) (hr : vR (bV μC v) (μM.1 1)) (x : Int32) : ∃ q m1 m2, q ≤ 300 ∧ fX2_run rfC 142 v 50 x μC = some ((), m1) ∧ fX12_lives rfM 0 x μM = some ((), m2) ∧ lvB v (bV μC v) μC μM 0 q m1 m2 := by
  unfold fX2_run fX12_lives
  simp only [p_seq, qm_35]
  generalize hA1 : o_wI (o_wI (o_wI (o_wI (o_wI (o_wI (o_wI μC 142 0 0) 142 1 0) 142 2 0) 142 3 0) 142 4 0) 142 5 0) 142 6 x = A1
  generalize hA0 : o_wI (o_wI μM 0 32 x) 0 33 0 = A0
  have c1 : ∀ i, i ≠ 142 → A1.1 i = μC.1 i := fun i hi => by rw [← hA1, p_wI_o hi, p_wI_o hi, p_wI_o hi, p_wI_o hi, p_wI_o hi, p_wI_o hi, p_wI_o hi]
  have c2 : A1.2 = μC.2 := by rw [← hA1]; rfl
  have c3 : ∀ j, j < 6 → A1.1 142 j = 0 := fun j hj => by
    rw [← hA1]
    simp only [p_wI1]
    rcases (show j = 0 ∨ j = 1 ∨ j = 2 ∨ j = 3 ∨ j = 4 ∨ j = 5 by omega) with rfl | rfl | rfl | rfl | rfl | rfl <;> rfl
  have c4 : A1.1 142 6 = x := by rw [← hA1, p_wI1, if_pos ⟨rfl, rfl⟩]
  have d1 : ∀ i, i ≠ 0 → A0.1 i = μM.1 i := fun i hi => by rw [← hA0, p_wI_o hi, p_wI_o hi]
  have d2 : A0.2 = μM.2 := by rw [← hA0]; rfl
  have d3 : ∀ k, k ≠ 32 → k ≠ 33 → A0.1 0 k = μM.1 0 k := fun k h1 h2 => by rw [← hA0, p_wI1, if_neg (fun z => h2 z.2), p_wI1, if_neg (fun z => h1 z.2)]
  have d4 : A0.1 0 32 = x := by rw [← hA0, p_wI1, if_neg (by omega), p_wI1, if_pos ⟨rfl, rfl⟩]
  have d5 : A0.1 0 33 = 0 := by rw [← hA0, p_wI1, if_pos ⟨rfl, rfl⟩]
  obtain ⟨e1, A2, q1, rfl, g1, g2, g3⟩ := lp_one (h := 12) (s := fX12_lives_s12 rfM 0)
    (fun i τ μ => ∃ k, k + i = 5 ∧ τ = nI k ∧ (∀ i, i ≠ 17 → μ.1 i = A0.1 i) ∧ μ.2 = A0.2 ∧ ∀ j, j < k → μ.1 17 j = 0)
    (fun e μ => e = (30, 0) ∧ (∀ i, i ≠ 17 → μ.1 i = A0.1 i) ∧ μ.2 = A0.2 ∧ ∀ j, j < 5 → μ.1 17 j = 0)
    (fun i τ μ hR => by
      obtain ⟨k, hk, rfl, h1, h2, h3⟩ := hR
      unfold fX12_lives_s12
      rw [qm_35, show (5 : Int32) = nI 5 from rfl]
      by_cases hi : i = 0
      · rw [if_pos ((n_le (by omega) (by omega)).mpr (by omega))]
        exact ⟨_, _, rfl, Or.inr ⟨show ¬ 30 = 12 by decide, rfl, h1, h2, fun j hj => h3 j (by omega)⟩⟩
      · rw [if_neg (fun z => by rw [n_le (by omega) (by omega)] at z; omega)]
        simp (disch := omega) only [nI_toInt, nI_clamp, p_ck, p_seq, aR_1]
        refine ⟨_, _, rfl, Or.inl ⟨rfl, i - 1, by omega, k + 1, by omega, rfl, fun i hi => by rw [p_wI_o hi]; exact h1 i hi, h2, fun j hj => ?_⟩⟩
        rw [p_wI1]
        by_cases hjk : j = k
        · rw [if_pos ⟨rfl, hjk⟩]
        · rw [if_neg (fun z => hjk z.2)]; exact h3 j (by omega))
    o_fuel 5 0 A0 (fu (by omega)) ⟨0, by omega, rfl, fun i _ => rfl, rfl, fun j hj => by omega⟩
  rw [q1, p_bd, if_pos rfl]
  obtain ⟨w1, w2, w3, w4, w5⟩ := val_c (m1 := A1) (μ1 := μC) (v := v) (fun j hj => by funext k; show A1.1 (v + j) k = μC.1 (v + j) k; rw [c1 _ (by omega)]) hw hr
  have hB : lvB v (bV μC v) μC μM 0 0 A1 A2 := by
    refine ⟨fun i _ h2 _ => c1 i h2, c2, fun i h0 _ _ h3 => (g1 i h3).trans (d1 i h0), fun k h1 h2 => by rw [g1 0 (by omega)]; exact d3 k h1 h2, g2.trans d2, fun k _ => by rw [g1 1 (by omega), d1 1 (by omega)], ⟨w1, ?_, w3, w4, w5⟩, fun j _ h5 => by rw [c3 j (by omega), g3 j h5], c3 5 (by omega), by rw [g1 0 (by omega)]; exact d5, by rw [c4, g1 0 (by omega), d4], 0, by omega, c3 0 (by omega), g3 0 (by omega)⟩
    rw [g1 1 (by omega), d1 1 (by omega)]
    exact w2
  obtain ⟨N, e, q, m1, m2, m3, y1, y2, y3, y4, y5, y6⟩ := run_main hv50 hv h7 h13 hp 300 0 0 0 A1 A2 (by omega) hB (fun o _ _ h _ => by omega) (by omega) (fun h1 h2 => by
    obtain ⟨o, ho, -⟩ := hp.2.2.2.2.1 0 h1 h2
    omega) (by omega)
  have z1 : o_lp 41 (fX2_run_s41 rfC 142 v 50) o_fuel (0, 0) A1 = some ((131, (0, 0)), m1) := p_lp y3 (by omega)
  have z2 : o_lp 32 (fX12_lives_s32 rfM 0) o_fuel 0 A2 = some ((e, 0), m2) := p_lp y4 (by omega)
  rw [z1, z2, p_bd, p_bd, if_pos rfl]
  rcases y5 with ⟨rfl, rfl⟩ | ⟨rfl | rfl, rfl⟩
  · exact ⟨q, _, _, y2, rfl, rfl, y6⟩
  · exact ⟨q, _, _, y2, rfl, rfl, y6⟩
  · exact ⟨q, _, _, y2, rfl, rfl, y6⟩
end rn
